/-! more checks, decided: where calls stand in a method with a table of handlers; which entries are the texts' own methods -/
def z_sLen : MethodName := ⟨"java/lang/String", "length", "()I"⟩
def z_sCh : MethodName := ⟨"java/lang/String", "charAt", "(I)C"⟩
def z_vb (vb : Option Nat) (pc : Nat) : Bool := match vb with
  | none => true
  | some b => Nat.blt pc b
noncomputable def z_xk (own : String) (ix : Nat) (ops : List Nat) : Bool := match ops with
  | [_, _, kind, _, _, ti] => cond (Nat.beq kind 7) (z_inT (.methodLink own ix z_sLen) ti) (cond (Nat.beq kind 8) (z_inT (.methodLink own ix z_sCh) ti) true)
  | _ => true
/-- an answer that is a thing -/
def z_rf (rt : Option FieldType) : Bool := match rt with
  | some (.object _) => true
  | some (.array _) => true
  | _ => false
noncomputable def z_xE (own : String) (vb : Option Nat) (rt : Option FieldType) (pc : Nat) (x : z_I) : Bool := match x.1 with
  | .invokevirtual ix => z_vb vb pc && z_xk own ix x.2.2
  | .invokestatic _ => z_vb vb pc
  | .areturn => z_rf rt
  | .return_ => rt.isNone
  | _ => true
noncomputable def z_xL (own : String) (vb : Option Nat) (rt : Option FieldType) : Nat → List z_I → Bool
  | _, [] => true
  | pc, x :: is => z_xE own vb rt pc x && z_xL own vb rt (pc + x.2.1) is
noncomputable def z_xB (own : String) (vb : Option Nat) (rt : Option FieldType) (b : z_B) : Bool := b.all (fun q => z_xL own vb rt q.1 q.2.2)
/-- the first handler's first row: all calls stand ahead of it -/
noncomputable def z_vbm (m : Nat) : Option Nat := match z_hh.getD m [] with
  | [] => none
  | q :: _ => some q.2.1
noncomputable def z_xM (m : Nat) : Bool := z_xB (z_own.getD (z_m m).2.2.2.2.1 "") (z_vbm m) (z_m m).2.2.2.1 (z_bs.getD m [])
theorem z_xMA : (List.range 212).all z_xM = true := by decide +kernel
theorem z_xM_ok {m : Nat} (h : m < 212) : z_xM m = true := List.all_eq_true.mp z_xMA m (List.mem_range.mpr h)
theorem z_vb_ok {vb : Option Nat} {pc : Nat} (h : z_vb vb pc = true) : ∀ b, vb = some b → pc < b := by
  intro b hb
  subst hb
  exact Nat.blt_eq.mp h
theorem z_xE_v {own : String} {vb : Option Nat} {rt : Option FieldType} {pc ix len : Nat} {ops : List Nat} (h : z_xE own vb rt pc (.invokevirtual ix, len, ops) = true) : ∀ b, vb = some b → pc < b := by
  have h1 : (z_vb vb pc && z_xk own ix ops) = true := h
  simp only [Bool.and_eq_true] at h1
  exact z_vb_ok h1.1
theorem z_xE_w {own : String} {vb : Option Nat} {rt : Option FieldType} {pc ix len : Nat} {ops : List Nat} (h : z_xE own vb rt pc (.invokestatic ix, len, ops) = true) : ∀ b, vb = some b → pc < b := z_vb_ok (show z_vb vb pc = true from h)
theorem z_xE_s {own : String} {vb : Option Nat} {rt : Option FieldType} {pc ix len : Nat} {ops : List Nat} (h : z_xE own vb rt pc (.invokevirtual ix, len, ops) = true) (kind : Nat) (q : ∃ m' n rc rt ti, ops = [m', n, kind, rc, rt, ti]) : (kind = 7 → Cond.methodLink own ix z_sLen ∈ z_tb) ∧ (kind = 8 → Cond.methodLink own ix z_sCh ∈ z_tb) := by
  have h1 : (z_vb vb pc && z_xk own ix ops) = true := h
  simp only [Bool.and_eq_true] at h1
  have h2 := h1.2
  obtain ⟨m', n, rc, rt, ti, rfl⟩ := q
  constructor
  · rintro rfl; exact z_inT_ok h2
  · rintro rfl; exact z_inT_ok h2
def z_mim (w : Cond) : Bool := match w with
  | .instanceMethod y => !(decide (y.cls = "java/lang/Math"))
  | _ => true
theorem z_mstA : lw_tbl.all z_mim = true := by decide +kernel
theorem z_mst : ∀ m', m' = 187 ∨ m' = 188 → Cond.instanceMethod (z_m m').1 ∉ z_tb := by
  intro m' hm hq
  have h1 := List.all_eq_true.mp z_mstA _ (List.mem_filter.mp hq).1
  have h2 : (z_m m').1.cls = "java/lang/Math" := by rcases hm with rfl | rfl <;> rfl
  simp [z_mim, h2] at h1
theorem z_at6A : (List.range 117).all (fun a => Nat.blt (z_at a) 6) = true := by decide +kernel
theorem z_at6 (a : Nat) : z_at a < 6 := by
  by_cases h : z_at a = 0
  · omega
  · exact Nat.blt_eq.mp (List.all_eq_true.mp z_at6A a (List.mem_range.mpr (z_at_lt h)))
/-- the script, where the law itself runs -/
def z_sc (lm : Bool) (n : Nat) (xs : Nat → Int32) (S : z_St) : Prop := lm = true → (∀ j, j < n → S.1 1300 j = xs j) ∧ S.1 1301 0 = nI n ∧ n ≤ 384
theorem z_sc.fr {lm : Bool} {n : Nat} {xs : Nat → Int32} {S S' : z_St} (h : z_sc lm n xs S) (hf : z_fr S S') : z_sc lm n xs S' := fun q => by
  obtain ⟨h1, h2, h3⟩ := h q
  have e1 : S'.1 1300 = S.1 1300 := hf 1300 (by decide)
  have e2 : S'.1 1301 = S.1 1301 := hf 1301 (by decide)
  exact ⟨fun j hj => by rw [e1]; exact h1 j hj, by rw [e2]; exact h2, h3⟩
theorem z_wInj {B : Nat} {D : va_G} {cA : Nat → ClassId} {ρ : Nat → Nat} {s : State} (hE : z_Env B D cA ρ s) {x y : Nat} (h1 : Nat.ble 1000 x = true) (h2 : Nat.blt x 1017 = true) (h3 : Nat.ble 1000 y = true) (h4 : Nat.blt y 1017 = true) : ρ x = ρ y → x = y := by
  intro q
  have a1 : 1000 ≤ x := Nat.le_of_ble_eq_true h1
  have a2 : x < 1017 := Nat.blt_eq.mp h2
  have a3 : 1000 ≤ y := Nat.le_of_ble_eq_true h3
  have a4 : y < 1017 := Nat.blt_eq.mp h4
  have := hE.2.2.2.2.1 (x - 1000) (y - 1000) (by omega) (by omega) (by rw [Nat.add_sub_cancel' a1, Nat.add_sub_cancel' a3]; exact q)
  omega
theorem z_lookOff (P : Int → Prop) : ∀ (ps : List (Int × Int)) (d k : Int), P d → (∀ q ∈ ps, P q.2) → P (Op.lookupswitch.offset ps d k)
  | [], d, k, hd, _ => hd
  | (a, o) :: r, d, k, hd, h => by
    rw [Op.lookupswitch.offset_cons]
    split
    · exact h (a, o) List.mem_cons_self
    · exact z_lookOff P r d k hd (fun q hq => h q (List.mem_cons_of_mem _ hq))
section ZO
variable {p : Program} {l : Launch} {e : Env} {R : Room} {s : State} {m : MethodId} {args : Array Value} {below : List Frame} {meth : Method} {c : Code} {Q : State → Prop} {B : Nat} {D : va_G} {ρ : Nat → Nat} {cA : Nat → ClassId} {nL : Nat}
variable {cc : ByteArray} {pc z : Nat} {L : z_Lo} {st r : List Value} {S : z_St} {own : String} {dd : Nat} {lm : Bool} {rt : Option FieldType} {hd0 : List (Nat × Int32)} {E : z_Ev} {K go : z_K} {out : z_Out × z_St}
theorem z_okO_gs {ix : Nat} {ops : List Nat} (h : z_okO own (.getstatic ix) ops = true) : ∃ v nest ti, ops = [v, nest, ti] ∧ ((v = 1100 ∧ z_okW own ix "ALL" "[LSlipRoom$Word;" nest ti = true) ∨ ∃ j, j < 17 ∧ v = 1000 + j ∧ z_okW own ix (z_wn.getD j "") "LSlipRoom$Word;" nest ti = true) := by
  unfold z_okO at h
  dsimp only at h
  split at h
  · rename_i v nest ti
    refine ⟨v, nest, ti, rfl, ?_⟩
    cases hv : Nat.beq v 1100 with
    | true => rw [hv] at h; exact Or.inl ⟨Nat.eq_of_beq_eq_true hv, h⟩
    | false =>
      rw [hv] at h
      simp only [cond_false, Bool.and_eq_true] at h
      have a1 : 1000 ≤ v := Nat.le_of_ble_eq_true h.1.1
      have a2 : v < 1017 := Nat.blt_eq.mp h.1.2
      exact Or.inr ⟨v - 1000, by omega, by omega, h.2⟩
  · cases h
theorem zm_gs (hctx : z_Ctx p l R s m args c B D ρ cA nL cc own dd) {ix : Nat} {ops : List Nat} (hd : decode cc pc = .ok (.getstatic ix, 3)) (ho : z_okO own (.getstatic ix) ops = true) (h : z_o_getstatic ops go pc z L st S = some out)
    (hgo : ∀ st', go (pc + 3) z L st' S = some out → z_J p l e R s m args below meth c Q B D ρ cA nL (pc + 3) z L st' S) : z_J p l e R s m args below meth c Q B D ρ cA nL pc z L st S := by
  obtain ⟨hx, hb, hml, hown, hts, hE, hAp, hRf, hRl⟩ := hctx
  obtain ⟨v, nest, ti, rfl, hcase⟩ := z_okO_gs ho
  have h : go (pc + 3) z L (.ref v :: st) S = some out := h
  rcases hcase with ⟨rfl, hW⟩ | ⟨j, hj, rfl, hW⟩
  · exact zj_getstatic hx hb hE.2.2.1.2.2.2.1 hown (z_okW_link hts hE.2.1 hW) hd (hgo _ h)
  · exact zj_getstatic hx hb (hE.2.2.1.2.2.1 j hj) hown (z_okW_link hts hE.2.1 hW) hd (hgo _ h)
theorem zm_ldc (hctx : z_Ctx p l R s m args c B D ρ cA nL cc own dd) {ix : Nat} {ops : List Nat} (hd : decode cc pc = .ok (.ldc ix, 2)) (ho : z_okO own (.ldc ix) ops = true) (h : z_o_ldc ops go pc z L st S = some out)
    (hgo : ∀ st', go (pc + 2) z L st' S = some out → z_J p l e R s m args below meth c Q B D ρ cA nL (pc + 2) z L st' S) : z_J p l e R s m args below meth c Q B D ρ cA nL pc z L st S := by
  obtain ⟨hx, hb, hml, hown, hts, hE, hAp, hRf, hRl⟩ := hctx
  unfold z_okO at ho
  dsimp only at ho
  split at ho
  · have h : go (pc + 2) z L (.int (nI _) :: st) S = some out := h
    exact zj_ldc hx hb hown (hts _ (z_inT_ok ho)) hd (hgo _ h)
  · simp only [Bool.and_eq_true, decide_eq_true_eq, List.any_eq_true] at ho
    obtain ⟨ho1, q, hq, h1, h2⟩ := ho
    have h : go (pc + 2) z L (.ref _ :: st) S = some out := h
    have hR := hE.2.2.2.1.2 q hq
    rw [Nat.eq_of_beq_eq_true h1, Nat.eq_of_beq_eq_true h2, ← ho1] at hR
    exact zj_ldcs hx hb hown hR hd (hgo _ h)
  · cases ho
theorem zm_ldcw (hctx : z_Ctx p l R s m args c B D ρ cA nL cc own dd) {ix : Nat} {ops : List Nat} (hd : decode cc pc = .ok (.ldc_w ix, 3)) (ho : z_okO own (.ldc_w ix) ops = true) (h : z_o_ldc_w ops go pc z L st S = some out)
    (hgo : ∀ st', go (pc + 3) z L st' S = some out → z_J p l e R s m args below meth c Q B D ρ cA nL (pc + 3) z L st' S) : z_J p l e R s m args below meth c Q B D ρ cA nL pc z L st S := by
  obtain ⟨hx, hb, hml, hown, hts, hE, hAp, hRf, hRl⟩ := hctx
  unfold z_okO at ho
  dsimp only at ho
  split at ho
  · have h : go (pc + 3) z L (.int (nI _) :: st) S = some out := h
    exact zj_ldcw hx hb hown (hts _ (z_inT_ok ho)) hd (hgo _ h)
  · simp only [Bool.and_eq_true, decide_eq_true_eq, List.any_eq_true] at ho
    obtain ⟨ho1, q, hq, h1, h2⟩ := ho
    have h : go (pc + 3) z L (.ref _ :: st) S = some out := h
    have hR := hE.2.2.2.1.2 q hq
    rw [Nat.eq_of_beq_eq_true h1, Nat.eq_of_beq_eq_true h2, ← ho1] at hR
    exact zj_ldcsw hx hb hown hR hd (hgo _ h)
  · cases ho
theorem zm_ldc2 (hctx : z_Ctx p l R s m args c B D ρ cA nL cc own dd) {ix : Nat} {ops : List Nat} (hd : decode cc pc = .ok (.ldc2_w ix, 3)) (ho : z_okO own (.ldc2_w ix) ops = true) (h : z_o_ldc2_w ops go pc z L st S = some out)
    (hgo : ∀ st', go (pc + 3) z L st' S = some out → z_J p l e R s m args below meth c Q B D ρ cA nL (pc + 3) z L st' S) : z_J p l e R s m args below meth c Q B D ρ cA nL pc z L st S := by
  obtain ⟨hx, hb, hml, hown, hts, hE, hAp, hRf, hRl⟩ := hctx
  unfold z_okO at ho
  dsimp only at ho
  split at ho
  · have h : go (pc + 3) z L (.long (lN _) :: st) S = some out := h
    exact zj_ldc2 hx hb hown (hts _ (z_inT_ok ho)) hd (hgo _ h)
  · cases ho
def z_SX (lm : Bool) (n : Nat) (xs : Nat → Int32) (B : Nat) (ρ : Nat → Nat) (s : State) : Prop := lm = true → va_X (ρ 1300) n xs s s.heap ∧ ρ 1300 < s.heap.size ∧ ¬ B ≤ ρ 1300
theorem zm_iald (hctx : z_Ctx p l R s m args c B D ρ cA nL cc own dd) {n : Nat} {xs : Nat → Int32} (hd : decode cc pc = .ok (.iaload, 1)) (hsc : z_sc lm n xs S) (hSX : z_SX lm n xs B ρ s) (h : z_o_iaload lm go pc z L st S = some out)
    (hgo : ∀ st', go (pc + 1) z L st' S = some out → z_J p l e R s m args below meth c Q B D ρ cA nL (pc + 1) z L st' S) : z_J p l e R s m args below meth c Q B D ρ cA nL pc z L st S := by
  obtain ⟨hx, hb, hml, hown, hts, hE, hAp, hRf, hRl⟩ := hctx
  unfold z_o_iaload at h
  split at h
  · rename_i x a r0
    cases ha : (lm && Nat.beq a 1300) with
    | true =>
      rw [ha] at h
      simp only [Bool.and_eq_true] at ha
      obtain rfl := Nat.eq_of_beq_eq_true ha.2
      have hz9 := z_cnd (show cond (z_ix x (S.1 1301 0).toNatClampNeg) (go (pc + 1) z L (.int (S.1 1300 x.toNatClampNeg) :: r0) S) none = some out from h)
      clear h
      obtain ⟨hi, h⟩ := hz9
      obtain ⟨s1, s2, s3⟩ := hsc ha.1
      obtain ⟨q1, q2, q3⟩ := hSX ha.1
      have hn : n < 2 ^ 31 := Nat.lt_of_le_of_lt s3 (by decide)
      rw [s2, nI_clamp hn] at hi
      have hlt : x.toNatClampNeg < n := by
        simp only [z_ix, Bool.and_eq_true, decide_eq_true_eq] at hi
        exact hi.2
      intro ls H locs hl hw
      have h9 := hgo _ h ls H locs hl hw
      rw [s1 _ hlt] at h9
      exact va_sld hx hb q1 q2 q3 hw.2 (z_ixin hi) hd h9
    | false =>
      rw [ha] at h
      have hz9 := z_cnd (show cond (Nat.beq (z_at a) 1 && z_ix x (z_ln a)) (go (pc + 1) z L (.int (S.1 a x.toNatClampNeg) :: r0) S) none = some out from h)
      clear h
      obtain ⟨hk, h⟩ := hz9
      simp only [Bool.and_eq_true] at hk
      exact zj_ia1 hx hb hE.1 hd (Nat.eq_of_beq_eq_true hk.1) hk.2 (hgo _ h)
  · cases h
theorem zm_alen (hctx : z_Ctx p l R s m args c B D ρ cA nL cc own dd) {n : Nat} {xs : Nat → Int32} (hd : decode cc pc = .ok (.arraylength, 1)) (hsc : z_sc lm n xs S) (hSX : z_SX lm n xs B ρ s) (h : z_o_arraylength lm go pc z L st S = some out)
    (hgo : ∀ st', go (pc + 1) z L st' S = some out → z_J p l e R s m args below meth c Q B D ρ cA nL (pc + 1) z L st' S) : z_J p l e R s m args below meth c Q B D ρ cA nL pc z L st S := by
  obtain ⟨hx, hb, hml, hown, hts, hE, hAp, hRf, hRl⟩ := hctx
  unfold z_o_arraylength at h
  split at h
  · rename_i a r0
    cases ha : (lm && Nat.beq a 1300) with
    | true =>
      rw [ha] at h
      simp only [Bool.and_eq_true] at ha
      obtain rfl := Nat.eq_of_beq_eq_true ha.2
      have h : go (pc + 1) z L (.int (S.1 1301 0) :: r0) S = some out := h
      obtain ⟨s1, s2, s3⟩ := hsc ha.1
      obtain ⟨q1, q2, q3⟩ := hSX ha.1
      intro ls H locs hl hw
      have h9 := hgo _ h ls H locs hl hw
      rw [s2] at h9
      exact va_slen hx hb q1 q2 q3 hw.2 hd h9
    | false =>
      rw [ha] at h
      cases hA : Nat.beq a 1100 with
      | true =>
        rw [hA] at h
        obtain rfl := Nat.eq_of_beq_eq_true hA
        have h : go (pc + 1) z L (.int (nI 17) :: r0) S = some out := h
        exact zj_alA hx hb hE.2.2.1.2.2.2.2.1 hd (hgo _ h)
      | false =>
        rw [hA] at h
        have hz9 := z_cnd (show cond (Nat.blt 0 (z_at a)) (go (pc + 1) z L (.int (nI (z_ln a)) :: r0) S) none = some out from h)
        clear h
        obtain ⟨hk, h⟩ := hz9
        have hk2 : 0 < z_at a := Nat.blt_eq.mp hk
        exact zj_al hx hb hE.1 hd (by omega) (z_at6 a) (hgo _ h)
  · cases h
theorem zm_tsw (hctx : z_Ctx p l R s m args c B D ρ cA nL cc own dd) {d lo hi : Int} {offs : Array Int} {len : Nat} (hd : decode cc pc = .ok (.tableswitch d lo hi offs, len)) (hj : z_okJ pc (.tableswitch d lo hi offs) = true) (h : z_o_tableswitch K d lo hi offs pc z L st S = some out)
    (hgo : ∀ t st', K t z L st' S = some out → z_J p l e R s m args below meth c Q B D ρ cA nL t z L st' S) : z_J p l e R s m args below meth c Q B D ρ cA nL pc z L st S := by
  obtain ⟨hx, hb, hml, hown, hts, hE, hAp, hRf, hRl⟩ := hctx
  have hj2 : (z_okP pc d && offs.toList.all (z_okP pc)) = true := hj
  simp only [Bool.and_eq_true] at hj2
  unfold z_o_tableswitch at h
  split at h
  · rename_i x r0
    unfold z_sw at h
    split at h
    · rename_i h0
      exact zj_tableOut hx hb hd h0 (z_okP_ok hj2.1) (hgo _ _ h)
    · rename_i h0
      split at h
      · rename_i o ho
        have hm : o ∈ offs.toList := by
          rw [← Array.getElem?_toList] at ho
          exact List.mem_of_getElem? ho
        exact zj_tableIn hx hb hd (fun q => h0 (Or.inl q)) (fun q => h0 (Or.inr q)) ho (z_okP_ok (List.all_eq_true.mp hj2.2 o hm)) (hgo _ _ h)
      · cases h
  · cases h
theorem zm_lsw (hctx : z_Ctx p l R s m args c B D ρ cA nL cc own dd) {d : Int} {ps : Array (Int × Int)} {len : Nat} (hd : decode cc pc = .ok (.lookupswitch d ps, len)) (hj : z_okJ pc (.lookupswitch d ps) = true) (h : z_o_lookupswitch K d ps pc z L st S = some out)
    (hgo : ∀ t st', K t z L st' S = some out → z_J p l e R s m args below meth c Q B D ρ cA nL t z L st' S) : z_J p l e R s m args below meth c Q B D ρ cA nL pc z L st S := by
  obtain ⟨hx, hb, hml, hown, hts, hE, hAp, hRf, hRl⟩ := hctx
  have hj2 : (z_okP pc d && ps.toList.all (fun q => z_okP pc q.2) && (ps.toList.zip (ps.toList.drop 1)).all (fun (a, next) => a.1 < next.1)) = true := hj
  simp only [Bool.and_eq_true] at hj2
  unfold z_o_lookupswitch at h
  split at h
  · rename_i x r0
    exact zj_lookup hx hb hd hj2.2 rfl (z_okP_ok (z_lookOff (fun o => z_okP pc o = true) ps.toList d x.toInt hj2.1.1 (fun q hq => List.all_eq_true.mp hj2.1.2 q hq))) (hgo _ _ h)
  · cases h
end ZO
