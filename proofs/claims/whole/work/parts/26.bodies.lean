/-! the law's small methods: their tables of handlers -/
def z_hA (m b h t ee : Nat) (v : Int32) : Prop := z_own.getD (z_m m).2.2.2.2.1 "" = "SlipRoomLaw" ∧ (z_m m).2.2.2.1 = some .int ∧ z_hh.getD m [] = [(0, b, h, t)] ∧ (z_m m).2.2.2.2.2 = [(ee, v)] ∧ z_hc (z_m m).2.1 (z_m m).2.2.1 h v = true
def z_hC (m b h h2 : Nat) (v v2 : Int32) : Prop := z_own.getD (z_m m).2.2.2.2.1 "" = "SlipRoomLaw" ∧ (z_m m).2.2.2.1 = some .int ∧ z_hh.getD m [] = [(0, b, h, 18), (0, b, h2, 13)] ∧ (z_m m).2.2.2.2.2 = [(0, v), (1, v2)] ∧ z_hc (z_m m).2.1 (z_m m).2.2.1 h v = true ∧ z_hc (z_m m).2.1 (z_m m).2.2.1 h2 v2 = true
set_option maxRecDepth 100000 in
theorem z_hx_191 : z_hA 191 9 12 13 1 1 := ⟨rfl, rfl, rfl, rfl, by decide +kernel⟩
set_option maxRecDepth 100000 in
theorem z_hx_192 : z_hA 192 9 12 18 0 1 := ⟨rfl, rfl, rfl, rfl, by decide +kernel⟩
set_option maxRecDepth 100000 in
theorem z_hx_193 : z_hA 193 10 13 18 0 1 := ⟨rfl, rfl, rfl, rfl, by decide +kernel⟩
set_option maxRecDepth 100000 in
theorem z_hx_194 : z_hA 194 10 13 18 0 1 := ⟨rfl, rfl, rfl, rfl, by decide +kernel⟩
set_option maxRecDepth 100000 in
theorem z_hx_195 : z_hA 195 14 17 18 0 1 := ⟨rfl, rfl, rfl, rfl, by decide +kernel⟩
set_option maxRecDepth 100000 in
theorem z_hx_196 : z_hA 196 10 13 18 0 1 := ⟨rfl, rfl, rfl, rfl, by decide +kernel⟩
set_option maxRecDepth 100000 in
theorem z_hx_197 : z_hA 197 12 15 18 0 1 := ⟨rfl, rfl, rfl, rfl, by decide +kernel⟩
set_option maxRecDepth 100000 in
theorem z_hx_198 : z_hA 198 10 13 18 0 1 := ⟨rfl, rfl, rfl, rfl, by decide +kernel⟩
set_option maxRecDepth 100000 in
theorem z_hx_199 : z_hA 199 12 15 18 0 1 := ⟨rfl, rfl, rfl, rfl, by decide +kernel⟩
set_option maxRecDepth 100000 in
theorem z_hx_200 : z_hA 200 19 22 18 0 1 := ⟨rfl, rfl, rfl, rfl, by decide +kernel⟩
set_option maxRecDepth 100000 in
theorem z_hx_201 : z_hA 201 12 15 18 0 1 := ⟨rfl, rfl, rfl, rfl, by decide +kernel⟩
set_option maxRecDepth 100000 in
theorem z_hx_202 : z_hA 202 14 17 18 0 1 := ⟨rfl, rfl, rfl, rfl, by decide +kernel⟩
set_option maxRecDepth 100000 in
theorem z_hx_203 : z_hA 203 9 12 18 0 1 := ⟨rfl, rfl, rfl, rfl, by decide +kernel⟩
set_option maxRecDepth 100000 in
theorem z_hx_204 : z_hA 204 10 13 18 0 1 := ⟨rfl, rfl, rfl, rfl, by decide +kernel⟩
set_option maxRecDepth 100000 in
theorem z_hx_205 : z_hA 205 12 15 18 0 1 := ⟨rfl, rfl, rfl, rfl, by decide +kernel⟩
set_option maxRecDepth 100000 in
theorem z_hx_206 : z_hA 206 9 12 18 0 1 := ⟨rfl, rfl, rfl, rfl, by decide +kernel⟩
set_option maxRecDepth 100000 in
theorem z_hx_207 : z_hA 207 12 15 18 0 1 := ⟨rfl, rfl, rfl, rfl, by decide +kernel⟩
set_option maxRecDepth 100000 in
theorem z_hx_208 : z_hA 208 9 12 18 0 1 := ⟨rfl, rfl, rfl, rfl, by decide +kernel⟩
set_option maxRecDepth 100000 in
theorem z_hx_209 : z_hA 209 19 22 18 0 1 := ⟨rfl, rfl, rfl, rfl, by decide +kernel⟩
set_option maxRecDepth 100000 in
theorem z_hx_210 : z_hC 210 10 13 17 1 2 := ⟨rfl, rfl, rfl, rfl, by decide +kernel, by decide +kernel⟩
theorem z_iswN : (List.range 191).all (fun m => !(z_isw m)) = true := by decide +kernel
theorem z_shape {m : Nat} (hm : m < 211) (h : z_isw m = true) : (∃ b h v, z_hA m b h 18 0 v) ∨ (∃ b h v, z_hA m b h 13 1 v) ∨ ∃ b h h2 v v2, z_hC m b h h2 v v2 := by
  by_cases hlt : m < 191
  · have h9 := List.all_eq_true.mp z_iswN m (List.mem_range.mpr hlt)
    rw [h] at h9
    cases h9
  · have hc : m = 191 ∨ m = 192 ∨ m = 193 ∨ m = 194 ∨ m = 195 ∨ m = 196 ∨ m = 197 ∨ m = 198 ∨ m = 199 ∨ m = 200 ∨ m = 201 ∨ m = 202 ∨ m = 203 ∨ m = 204 ∨ m = 205 ∨ m = 206 ∨ m = 207 ∨ m = 208 ∨ m = 209 ∨ m = 210 := by omega
    rcases hc with rfl | rfl | rfl | rfl | rfl | rfl | rfl | rfl | rfl | rfl | rfl | rfl | rfl | rfl | rfl | rfl | rfl | rfl | rfl | rfl
    · exact Or.inr (Or.inl ⟨_, _, _, z_hx_191⟩)
    · exact Or.inl ⟨_, _, _, z_hx_192⟩
    · exact Or.inl ⟨_, _, _, z_hx_193⟩
    · exact Or.inl ⟨_, _, _, z_hx_194⟩
    · exact Or.inl ⟨_, _, _, z_hx_195⟩
    · exact Or.inl ⟨_, _, _, z_hx_196⟩
    · exact Or.inl ⟨_, _, _, z_hx_197⟩
    · exact Or.inl ⟨_, _, _, z_hx_198⟩
    · exact Or.inl ⟨_, _, _, z_hx_199⟩
    · exact Or.inl ⟨_, _, _, z_hx_200⟩
    · exact Or.inl ⟨_, _, _, z_hx_201⟩
    · exact Or.inl ⟨_, _, _, z_hx_202⟩
    · exact Or.inl ⟨_, _, _, z_hx_203⟩
    · exact Or.inl ⟨_, _, _, z_hx_204⟩
    · exact Or.inl ⟨_, _, _, z_hx_205⟩
    · exact Or.inl ⟨_, _, _, z_hx_206⟩
    · exact Or.inl ⟨_, _, _, z_hx_207⟩
    · exact Or.inl ⟨_, _, _, z_hx_208⟩
    · exact Or.inl ⟨_, _, _, z_hx_209⟩
    · exact Or.inr (Or.inr ⟨_, _, _, _, _, z_hx_210⟩)
noncomputable def z_tbm (w : Cond) : Bool := decide (w ∈ lw_tbl) && goodWord w
theorem z_tbm_ok {w : Cond} (h : z_tbm w = true) : w ∈ z_tb := by
  simp only [z_tbm, Bool.and_eq_true, decide_eq_true_eq] at h
  exact List.mem_filter.mpr h
theorem z_cl18 : Cond.classLink "SlipRoomLaw" 18 (z_en 0) ∈ z_tb := z_tbm_ok (by decide +kernel)
theorem z_cl13 : Cond.classLink "SlipRoomLaw" 13 (z_en 1) ∈ z_tb := z_tbm_ok (by decide +kernel)
theorem z_ca0 : Cond.castable (z_en 0) (z_en 0) ∈ z_dw := List.mem_filter.mpr ⟨by decide +kernel, rfl⟩
theorem z_ca1 : Cond.castable (z_en 1) (z_en 1) ∈ z_dw := List.mem_filter.mpr ⟨by decide +kernel, rfl⟩
section ZG
variable {p : Program} {l : Launch} {e : Env} {R : Room} {s : State} {m : MethodId} {args : Array Value} {below : List Frame} {meth : Method} {c : Code} {Q : State → Prop} {B : Nat} {D : va_G} {ρ : Nat → Nat} {cA : Nat → ClassId} {nL : Nat}
variable {cc : ByteArray} {pc z len : Nat} {L : z_Lo} {st r : List Value} {S S1 : z_St} {own : String} {dd : Nat} {rt : Option FieldType} {o : z_Out} {mc : Nat}
theorem z_row0 (hctx : z_Ctx p l R s m args c B D ρ cA nL cc own dd) {b h : Nat} (hp : pc < b) : z_Row "SlipRoomLaw" (z_en 0) args s pc true ⟨0, b, h, 18⟩ := by
  obtain ⟨hx, hb, hml, hown, hts, hE, hAp, hRf, hRl⟩ := hctx
  obtain ⟨k, t, h1, h2, h3⟩ := Cond.castable_spec (va_Nw.use (A := args) rfl (hE.2.2.2.2.2.2 _ z_ca0))
  exact ⟨by simp [covers, hp], Nat.succ_ne_zero _, z_en 0, hts _ z_cl18, k, t, h1, h2, h3⟩
theorem z_row1 (hctx : z_Ctx p l R s m args c B D ρ cA nL cc own dd) {b h : Nat} (hp : pc < b) : z_Row "SlipRoomLaw" (z_en 1) args s pc true ⟨0, b, h, 13⟩ := by
  obtain ⟨hx, hb, hml, hown, hts, hE, hAp, hRf, hRl⟩ := hctx
  obtain ⟨k, t, h1, h2, h3⟩ := Cond.castable_spec (va_Nw.use (A := args) rfl (hE.2.2.2.2.2.2 _ z_ca1))
  exact ⟨by simp [covers, hp], Nat.succ_ne_zero _, z_en 1, hts _ z_cl13, k, t, h1, h2, h3⟩
theorem z_row2 (hctx : z_Ctx p l R s m args c B D ρ cA nL cc own dd) {b h : Nat} (hp : pc < b) : z_Row "SlipRoomLaw" (z_en 1) args s pc false ⟨0, b, h, 18⟩ := by
  obtain ⟨hx, hb, hml, hown, hts, hE, hAp, hRf, hRl⟩ := hctx
  exact ⟨by simp [covers, hp], Nat.succ_ne_zero _, z_en 0, hts _ z_cl18, hE.2.2.2.2.2.1⟩
/-- a callee's throw where the small method runs: caught -/
theorem z_xoW {mm : Nat} (hctx : z_Ctx p l R s m args c B D ρ cA (z_m mm).2.2.1 (z_m mm).2.1 "SlipRoomLaw" dd) (htab : c.exceptionTable.toList = tableOf (z_hh.getD mm [])) (hr : meth.sig.returnType = some .int) (hlocks : meth.locks = false) (hRc : 1 ≤ R.cells ∧ 6 ≤ R.slots ∧ 1 ≤ mc)
    (hsh : (∃ b h v, z_hA mm b h 18 0 v) ∨ (∃ b h v, z_hA mm b h 13 1 v) ∨ ∃ b h h2 v v2, z_hC mm b h h2 v v2) {v0 : Option Value} (hpc : ∀ b, z_vbm mm = some b → pc < b) : z_Xo p l e R s m args below meth c (z_MQ B D ρ cA (.inl v0) S1 below args s mc) B D ρ cA (z_m mm).2.2.1 (z_m mm).2.2.2.2.2 (.inl v0, S1) pc L := by
  obtain ⟨hx, hb, hml, hown, hts, hE, hAp, hRf, hRl⟩ := id hctx
  intro ee S2 h
  refine ⟨hRc.1, hRc.2.1, fun ls H locs q ce rest hl hw hc hv hcl => ?_⟩
  rcases hsh with ⟨b, hp, v, -, -, hh, hd, hok⟩ | ⟨b, hp, v, -, -, hh, hd, hok⟩ | ⟨b, hp, hp2, v, v2, -, -, hh, hd, hok, hok2⟩
  · have hpb : pc < b := hpc b (by unfold z_vbm; rw [hh])
    rw [hd] at h
    rw [hh] at htab
    by_cases h0 : ee = 0
    · subst h0
      have h2 : (.inl (some (.int v)), S2) = ((.inl v0 : z_Out), S1) := Option.some.inj h
      cases h2
      exact z_catch hown [] ⟨0, b, hp, 18⟩ [] htab (fun y hy => by cases hy) (z_row0 hctx hpb) hc hv hcl (z_hc_ok hx hb hr hlocks hok hl hw hRc.2.2 (by omega))
    · simp [z_hnd, Ne.symm h0] at h
  · have hpb : pc < b := hpc b (by unfold z_vbm; rw [hh])
    rw [hd] at h
    rw [hh] at htab
    by_cases h0 : ee = 1
    · subst h0
      have h2 : (.inl (some (.int v)), S2) = ((.inl v0 : z_Out), S1) := Option.some.inj h
      cases h2
      exact z_catch hown [] ⟨0, b, hp, 13⟩ [] htab (fun y hy => by cases hy) (z_row1 hctx hpb) hc hv hcl (z_hc_ok hx hb hr hlocks hok hl hw hRc.2.2 (by omega))
    · simp [z_hnd, Ne.symm h0] at h
  · have hpb : pc < b := hpc b (by unfold z_vbm; rw [hh])
    rw [hd] at h
    rw [hh] at htab
    by_cases h0 : ee = 0
    · subst h0
      have h2 : (.inl (some (.int v)), S2) = ((.inl v0 : z_Out), S1) := Option.some.inj h
      cases h2
      exact z_catch hown [] ⟨0, b, hp, 18⟩ [⟨0, b, hp2, 13⟩] htab (fun y hy => by cases hy) (z_row0 hctx hpb) hc hv hcl (z_hc_ok hx hb hr hlocks hok hl hw hRc.2.2 (by omega))
    · by_cases h1 : ee = 1
      · subst h1
        have h2 : (.inl (some (.int v2)), S2) = ((.inl v0 : z_Out), S1) := Option.some.inj h
        cases h2
        exact z_catch hown [⟨0, b, hp, 18⟩] ⟨0, b, hp2, 13⟩ [] htab (fun y hy => by rw [List.mem_singleton.mp hy]; exact z_row2 hctx hpb) (z_row1 hctx hpb) hc hv hcl (z_hc_ok hx hb hr hlocks hok2 hl hw hRc.2.2 (by omega))
      · simp [z_hnd, Ne.symm h0, Ne.symm h1] at h
end ZG
/-- what the texts' own methods owe -/
def z_Str (l : Launch) (B : Nat) (D : va_G) (ρ : Nat → Nat) (cA : Nat → ClassId) : Prop := ∀ (p : Program) (e : Env) (R : Room) (s : State) (m : MethodId) (args : Array Value) (below : List Frame) (meth : Method) (c : Code) (Q : State → Prop) (nL : Nat) (cc : ByteArray) (own : String) (dd : Nat), z_Ctx p l R s m args c B D ρ cA nL cc own dd →
  ∀ pc ix, decode cc pc = .ok (.invokevirtual ix, 3) → (Cond.methodLink own ix z_sLen ∈ z_tb → z_So1 p l e R s m args below meth c Q B D ρ cA nL pc) ∧ (Cond.methodLink own ix z_sCh ∈ z_tb → z_So2 p l e R s m args below meth c Q B D ρ cA nL pc)
def z_IH (l : Launch) (B : Nat) (D : va_G) (ρ : Nat → Nat) (cA : Nat → ClassId) (d : Nat) : Prop := ∀ m' as S o S1, m' < 211 → m' ≠ 187 → m' ≠ 188 → (z_isw m' = true → ∃ v, o = .inl v) → z_ew d m' as S = some (o, S1) → z_C l B D ρ cA d m' as S o S1
def z_Mx (d : Nat) : Prop := (∀ as S o S1, as.length = 2 → z_ew d 187 as S = some (o, S1) → ∃ x y, as = [.int x, .int y] ∧ o = .inl (some (.int (if x < y then y else x))) ∧ S1 = S) ∧ (∀ as S o S1, as.length = 2 → z_ew d 188 as S = some (o, S1) → ∃ x y, as = [.int x, .int y] ∧ o = .inl (some (.int (if y < x then y else x))) ∧ S1 = S)
section ZB
variable {p : Program} {l : Launch} {e : Env} {s s₁ : State} {m0 : MethodId} {args : Array Value} {below : List Frame} {meth : Method} {c : Code} {B : Nat} {D : va_G} {ρ : Nat → Nat} {cA : Nat → ClassId} {d m k : Nat} {as : List Value} {S S1 : z_St} {o : z_Out}
theorem z_body_ctx (hm : m < 211) (hAp : z_Ap B ρ) (Bd : BodyLoose p l (z_m m).1 (headSpec (z_ws m) (z_rm (d + 1) k)) (z_m m).2.1 (z_m m).2.2.1 (z_m m).2.2.2.1 e s m0 args below meth c s₁) (hml : c.maxLocals = (z_m m).2.2.1) (hP : z_Pc B D ρ cA as S args s) :
    z_Ctx p l (z_rm (d + 1) k) s m0 args c B D ρ cA (z_m m).2.2.1 (z_m m).2.1 (z_own.getD (z_m m).2.2.2.2.1 "") d := by
  have h9 := z_okMA m hm
  simp only [z_okM, Bool.and_eq_true, decide_eq_true_eq] at h9
  have hts0 : ∀ w ∈ z_ws m, w.before args s = true := atoms_spec (ws := z_ws m) Bd.pre
  refine ⟨Bd.exec, Bd.bytes, hml, ?_, fun w hw => hts0 w (List.mem_cons_of_mem _ hw), hP.2.1, hAp, by simp only [z_rm]; omega, by simp only [z_rm]; omega⟩
  rw [← h9.2]
  exact findClass_of_methodNamed Bd.named
theorem z_body (hm : m < 211) (hAp : z_Ap B ρ) (hStr : z_Str l B D ρ cA) (hIH : z_IH l B D ρ cA d) (hMx : z_Mx d) (hfit : (z_sl as).length ≤ (z_m m).2.2.1) (hrun : z_run false (z_m m).2.2.2.1 (z_m m).2.2.2.2.2 (z_ew d) (z_bs.getD m []) z_fuel 0 0 (z_in (z_m m).2.2.1 as) [] S = some (o, S1))
    (Bd : BodyLoose p l (z_m m).1 (headSpec (z_ws m) (z_rm (d + 1) k)) (z_m m).2.1 (z_m m).2.2.1 (z_m m).2.2.2.1 e s m0 args below meth c s₁) (hml : c.maxLocals = (z_m m).2.2.1) (hP : z_Pc B D ρ cA as S args s)
    (hXo : ∀ pc L, (∀ b, z_vbm m = some b → pc < b) → z_Xo p l e (z_rm (d + 1) k) s m0 args below meth c (z_MQ B D ρ cA o S1 below args s k) B D ρ cA (z_m m).2.2.1 (z_m m).2.2.2.2.2 (o, S1) pc L)
    (hTh : ∀ pc len ee ops L, z_okT (z_m m).2.1 (z_own.getD (z_m m).2.2.2.2.1 "") pc len (ee :: ops) = true → o = .inr ee → z_J p l e (z_rm (d + 1) k) s m0 args below meth c (z_MQ B D ρ cA o S1 below args s k) B D ρ cA (z_m m).2.2.1 pc 0 L [] S1) :
    W p l e (z_rm (d + 1) k) s m0 args below meth c s.heap [] 0 0 (z_MQ B D ρ cA o S1 below args s k) (entryFrame m0 args (z_m m).2.2.1) := by
  have hctx := z_body_ctx hm hAp Bd hml hP
  obtain ⟨hx, hb, hml, hown, hts, hE, -, hRf, hRl⟩ := id hctx
  have hr : meth.sig.returnType = (z_m m).2.2.2.1 := Bd.returns
  have hlocks : meth.locks = false := Bd.notSynchronized
  have hRd : z_Rd p l e (z_rm (d + 1) k) s m0 args below meth c (z_MQ B D ρ cA o S1 below args s k) B D ρ cA (z_m m).2.2.1 (z_m m).2.1 (z_own.getD (z_m m).2.2.2.2.1 "") d 0 (fun _ => 0) (z_vbm m) false (z_m m).2.2.2.1 (z_m m).2.2.2.2.2 (z_ew d) (o, S1) := by
    refine ⟨fun q => Bool.noConfusion q, fun q => Bool.noConfusion q, hIH, hMx.1, hMx.2, fun m' as S o S1 h1 h2 => z_fr_ew d m' as S o S1 h1 h2, fun _ pc L h => hXo pc L h, hStr p e _ s m0 args below meth c _ _ _ _ d hctx, ?_, ?_, ?_, ?_⟩
    · intro pc z L S2 x hz hd hrb ho
      obtain rfl := hz.1 rfl
      cases ho
      exact z_endI hx hb hr hlocks hrb hd
    · intro _ pc L S2 x hd hrf ho
      cases ho
      exact z_endA hx hb hr hlocks hrf hd
    · intro _ pc L S2 hd hn ho
      cases ho
      exact z_endV hx hb (hr.trans hn) hlocks hd
    · intro _ pc len ee ops L S2 ht ho
      cases ho
      exact hTh pc len ee ops L ht rfl
  have hJ := z_run_ok hctx hRd (z_okb m hm) (z_xM_ok (Nat.lt_succ_of_lt hm)) _ 0 0 _ [] S ⟨fun _ => rfl, Nat.zero_le _⟩ (fun q => by cases q) hrun
  have hargs : args = (as.map (z_v ρ)).toArray := hP.1
  subst hargs
  rw [lg_entry_eq]
  have hl := lv_entry (as.map (z_v ρ)) (n := (z_m m).2.2.1) (by rw [z_sl_len]; exact hfit)
  exact hJ _ s.heap [] (z_in_lr hl) ⟨hP.2.2, va_S.rf⟩
end ZB
theorem z_wNot : (List.range 211).all (fun m => !(z_isw m) || !(decide (z_own.getD (z_m m).2.2.2.2.1 "" = "SlipRoom"))) = true := by decide +kernel
theorem z_okT_own {cc : ByteArray} {own : String} {pc len : Nat} {ops : List Nat} (h : z_okT cc own pc len ops = true) : own = "SlipRoom" := by
  unfold z_okT at h
  split at h
  · simp only [Bool.and_eq_true, decide_eq_true_eq] at h
    exact h.1.1.1.1.1.1.2
  · cases h
theorem z_ew_ok {l : Launch} (hl0 : l.stackTraces = false) {B : Nat} {D : va_G} {ρ : Nat → Nat} {cA : Nat → ClassId} (hAp : z_Ap B ρ) (hStr : z_Str l B D ρ cA) (hMx : ∀ d, z_Mx d) : ∀ d, z_IH l B D ρ cA d
  | 0 => fun m as S o S1 _ _ _ _ h => by cases h
  | d + 1 => fun m as S o S1 hm h7 h8 hw h => by
    have hIH := z_ew_ok hl0 hAp hStr hMx d
    unfold z_ew at h
    have hz9 := z_cnd h
    clear h
    obtain ⟨hfit, h⟩ := hz9
    have hfit2 := Nat.le_of_ble_eq_true hfit
    obtain ⟨hin, hy, hpar, hL30, hpl0⟩ := z_okM_ok hm
    have hpl : plainName (z_m m).1.cls = true := hpl0.elim id (fun q => q.elim (fun q => absurd q h7) (fun q => absurd q h8))
    cases hiw : z_isw m with
    | false =>
      have hd0 : (z_m m).2.2.2.2.2 = [] := by
        unfold z_isw at hiw
        cases hq : (z_m m).2.2.2.2.2 with
        | nil => rfl
        | cons a b => rw [hq] at hiw; cases hiw
      unfold z_C
      rw [hiw]
      refine vx_ofW hpl (z_ws_code hiw) (fun p e s m0 args below meth c s₁ Bd hml htab hP => ?_)
      have hk : ∀ ee, o = .inr ee → 1 ≤ (z_rm (d + 1) (z_mcz false o)).cells ∧ 6 ≤ (z_rm (d + 1) (z_mcz false o)).slots ∧ 1 ≤ z_mcz false o := by
        intro ee he
        subst he
        simp [z_rm, z_mcz]
      refine z_body hm hAp hStr hIH (hMx d) hfit2 h Bd hml hP (fun pc L _ => ?_) (fun pc len ee ops L ht ho => ?_)
      · rw [hd0]
        exact z_endX htab Bd.notSynchronized hk
      · subst ho
        exact z_endT (z_body_ctx hm hAp Bd hml hP) hl0 htab Bd.notSynchronized ⟨(hk ee rfl).1, (hk ee rfl).2.1⟩ (hk ee rfl).2.2 ht
    | true =>
      obtain ⟨v0, rfl⟩ := hw hiw
      have hsh := z_shape hm hiw
      have hoI : z_own.getD (z_m m).2.2.2.2.1 "" = "SlipRoomLaw" ∧ (z_m m).2.2.2.1 = some .int := by
        rcases hsh with ⟨_, _, _, h1, h2, -⟩ | ⟨_, _, _, h1, h2, -⟩ | ⟨_, _, _, _, _, h1, h2, -⟩ <;> exact ⟨h1, h2⟩
      unfold z_C
      rw [hiw]
      refine vx_ofWH hpl (z_ws_codeW hiw) (fun p e s m0 args below meth c s₁ Bd hml hP => ?_)
      have hts0 : ∀ w ∈ z_ws m, w.before args s = true := atoms_spec (ws := z_ws m) Bd.pre
      have htab := vx_table (x := (z_m m).1) Bd (hts0 _ (by rw [z_ws_codeW hiw]; exact List.mem_cons_self))
      have hctx := z_body_ctx hm hAp Bd hml hP
      rw [hoI.1] at hctx
      refine z_body hm hAp hStr hIH (hMx d) hfit2 h Bd hml hP (fun pc L hpc => ?_) (fun pc len ee ops L ht ho => ?_)
      · exact z_xoW hctx htab (Bd.returns.trans hoI.2) Bd.notSynchronized (by simp [z_rm, z_mcz]) hsh hpc
      · have := z_okT_own ht
        rw [hoI.1] at this
        exact absurd this (by decide)
