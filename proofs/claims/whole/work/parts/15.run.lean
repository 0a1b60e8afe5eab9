/-! a call, by its kind -/
def z_Ctx (p : Program) (l : Launch) (R : Room) (s : State) (m : MethodId) (args : Array Value) (c : Code) (B : Nat) (D : va_G) (ρ : Nat → Nat) (cA : Nat → ClassId) (nL : Nat) (cc : ByteArray) (own : String) (dd : Nat) : Prop :=
  p.tables.exec = Jvm.exec ∧ c.code = cc ∧ c.maxLocals = nL ∧ s.vm.findClass own = some m.cls ∧ (∀ w ∈ z_tb, w.before args s = true) ∧ z_Env B D cA ρ s ∧ z_Ap B ρ ∧ dd + 11 ≤ R.frames ∧ 60 * dd + 260 ≤ R.locals
theorem z_pop_ok : ∀ (n : Nat) (acc st as rest : List Value), z_pop n acc st = some (as, rest) → ∃ u, as = u ++ acc ∧ st = u.reverse ++ rest ∧ u.length = n
  | 0, acc, st, as, rest, h => by cases h; exact ⟨[], rfl, rfl, rfl⟩
  | n + 1, acc, [], as, rest, h => by cases h
  | n + 1, acc, v :: st, as, rest, h => by
    obtain ⟨u, h1, h2, h3⟩ := z_pop_ok n (v :: acc) st as rest h
    refine ⟨u ++ [v], by rw [h1]; simp, by rw [h2]; simp, by simp [h3]⟩
theorem z_pop_nil {n : Nat} {st as rest : List Value} (h : z_pop n [] st = some (as, rest)) : st = as.reverse ++ rest ∧ as.length = n := by
  obtain ⟨u, h1, h2, h3⟩ := z_pop_ok n [] st as rest h
  rw [List.append_nil] at h1
  subst h1
  exact ⟨h2, h3⟩
theorem z_goodIn {ws : List Cond} (h : ∀ w ∈ ws, w ∈ z_tb) : GoodIn z_tb ws := fun w hw => ⟨h w hw, good_of_word (List.mem_filter.mp (h w hw)).2⟩
theorem z_ws_tb {m : Nat} (hm : m < 211) : ∀ w ∈ z_ws m, w ∈ z_tb := fun w hw => (List.mem_cons.mp hw).elim (fun e => by rw [e]; exact z_cwA m hm) (fun h => h)
theorem z_okM_ok {m : Nat} (hm : m < 211) : (Cond.initialized (z_m m).1.cls ∈ z_tb) ∧ ((z_m m).1.cls ≠ "java/lang/invoke/MethodHandle" ∧ (z_m m).1.cls ≠ "java/lang/invoke/VarHandle") ∧ (parseMethodDescriptor (z_m m).1.desc).map (fun d => d.parameters.length) = some (z_mi.getD m (0, 0, 0, 0, 0)).2.2.2.2 ∧ (z_m m).2.2.1 ≤ 30 ∧ (plainName (z_m m).1.cls = true ∨ m = 187 ∨ m = 188) := by
  have h := z_okMA m hm
  simp only [z_okM, Bool.and_eq_true, Bool.or_eq_true, decide_eq_true_eq, Nat.beq_eq] at h
  obtain ⟨⟨⟨⟨⟨h1, h2⟩, h3⟩, h4⟩, h5⟩, h6⟩ := h
  refine ⟨z_inT_ok h1, h3, h4, h5, ?_⟩
  rcases h2 with (h2 | h2) | h2
  · exact Or.inl h2
  · exact Or.inr (Or.inl h2)
  · exact Or.inr (Or.inr h2)
theorem z_ws_code {m : Nat} (h : z_isw m = false) : z_ws m = Cond.code (z_m m).1 (z_m m).2.1 (z_m m).2.2.1 (z_m m).2.2.2.1 :: z_tb := by simp [z_ws, z_cw, h]
theorem z_ws_codeW {m : Nat} (h : z_isw m = true) : z_ws m = Cond.codeWith (z_m m).1 (z_m m).2.1 (z_m m).2.2.1 (z_m m).2.2.2.1 (z_hh.getD m []) :: z_tb := by simp [z_ws, z_cw, h]
section ZC
variable {p : Program} {l : Launch} {e : Env} {R : Room} {s : State} {m : MethodId} {args : Array Value} {below : List Frame} {meth : Method} {c : Code} {Q : State → Prop} {B : Nat} {D : va_G} {ρ : Nat → Nat} {cA : Nat → ClassId} {nL : Nat}
variable {cc : ByteArray} {pc z : Nat} {L : z_Lo} {st r : List Value} {S : z_St} {own : String} {dd : Nat}
theorem z_hWs {ls : Array Slot} {q : List Value} (h : z_cs r ≤ 8) : 2 * (F0 m pc ls q).monitorRoom + ((r.map (z_v ρ)).map fun v => v.category).sum ≤ 8 := lv_room (by rw [z_csum]; exact h)
/-- an ordinary static call -/
theorem zm_run0 (hctx : z_Ctx p l R s m args c B D ρ cA nL cc own dd) {m' i : Nat} {as : List Value} {o : z_Out} {S1 : z_St} (hm : m' < 211) (hC : z_C l B D ρ cA dd m' as S o S1) (hiw : z_isw m' = false) (hn : as.length = (z_mi.getD m' (0, 0, 0, 0, 0)).2.2.2.2) (hl : Cond.methodLink own i (z_m m').1 ∈ z_tb) (hs : Cond.static (z_m m').1 ∈ z_tb) (hr8 : z_cs r ≤ 8) (hd : decode cc pc = .ok (.invokestatic i, 3)) (hcell : z + z_mcz (z_isw m') o ≤ R.cells ∧ 6 * z + 6 * z_mcz (z_isw m') o ≤ R.slots)
    (ls : Array Slot) (H : Heap) (locs : List Loc) (hls : z_lr ρ ls nL L) (hw : z_Wd B D ρ cA S s H locs) : vx_Run p l e R s m args below meth c H locs z (6 * z) (z_mcz (z_isw m') o) (6 * z_mcz (z_isw m') o) (F0 m pc ls ((as.reverse ++ r).map (z_v ρ))) (r.map (z_v ρ)) (z_Qr B D ρ cA o S1 (as.map (z_v ρ)).toArray) (z_Qx B D ρ cA o S1) (fun q => B ≤ q) := by
  obtain ⟨hx, hb, hml, hown, hts, hE, hAp, hRf, hRl⟩ := hctx
  obtain ⟨hin, hy, hpar, hL30, -⟩ := z_okM_ok hm
  refine vx_runS (As := as.map (z_v ρ)) (Ts := z_tb) (own := own) (index := i) (y := (z_m m').1) (bytes := (z_m m').2.1) (maxL := (z_m m').2.2.1) (ret := (z_m m').2.2.2.1) (ws := z_ws m') ⟨hx, hb, hml, hown, hts⟩ hC ⟨callB_of ((z_mi.getD m' (0, 0, 0, 0, 0)).2.2.2.2) hts (z_goodIn (z_ws_tb hm)) (z_ws_code hiw) rfl rfl (hts _ hin) (hts _ hl) ⟨hy.1, hy.2, hpar⟩ ⟨by simp only [z_rm]; omega, by simp only [z_rm]; omega⟩, hts _ hs⟩ ⟨z_Pc.blind, hw.pre hE⟩ rfl (by simp [hn]) hls.1 (by simp) (z_hWs hr8) hd hcell
/-- a nest mate's static method -/
theorem zm_run1 (hctx : z_Ctx p l R s m args c B D ρ cA nL cc own dd) {m' i : Nat} {as : List Value} {o : z_Out} {S1 : z_St} (hm : m' < 211) (hC : z_C l B D ρ cA dd m' as S o S1) (hiw : z_isw m' = false) (hn : as.length = (z_mi.getD m' (0, 0, 0, 0, 0)).2.2.2.2) (hl : Cond.methodLinkNest own i (z_m m').1 "SlipRoom" ∈ z_nw) (hs : Cond.static (z_m m').1 ∈ z_tb) (hr8 : z_cs r ≤ 8) (hd : decode cc pc = .ok (.invokestatic i, 3)) (hcell : z + z_mcz (z_isw m') o ≤ R.cells ∧ 6 * z + 6 * z_mcz (z_isw m') o ≤ R.slots)
    (ls : Array Slot) (H : Heap) (locs : List Loc) (hls : z_lr ρ ls nL L) (hw : z_Wd B D ρ cA S s H locs) : vx_Run p l e R s m args below meth c H locs z (6 * z) (z_mcz (z_isw m') o) (6 * z_mcz (z_isw m') o) (F0 m pc ls ((as.reverse ++ r).map (z_v ρ))) (r.map (z_v ρ)) (z_Qr B D ρ cA o S1 (as.map (z_v ρ)).toArray) (z_Qx B D ρ cA o S1) (fun q => B ≤ q) := by
  obtain ⟨hx, hb, hml, hown, hts, hE, hAp, hRf, hRl⟩ := hctx
  obtain ⟨hin, hy, hpar, hL30, -⟩ := z_okM_ok hm
  refine zn_runSN (As := as.map (z_v ρ)) (Ts := z_tb) (own := own) (index := i) (host := "SlipRoom") (y := (z_m m').1) (bytes := (z_m m').2.1) (maxL := (z_m m').2.2.1) (ret := (z_m m').2.2.2.1) (ws := z_ws m') ⟨hx, hb, hml, hown, hts⟩ hC ⟨va_cnB ((z_mi.getD m' (0, 0, 0, 0, 0)).2.2.2.2) hts (z_goodIn (z_ws_tb hm)) (z_ws_code hiw) rfl rfl (hE.2.1 _ hl) (hts _ hin) ⟨hy.1, hy.2, hpar⟩ ⟨by simp only [z_rm]; omega, by simp only [z_rm]; omega⟩, hts _ hs⟩ ⟨z_Pc.blind, hw.pre hE⟩ rfl (by simp [hn]) hls.1 (by simp) (z_hWs hr8) hd hcell
/-- the law's own small methods -/
theorem zm_run4 (hctx : z_Ctx p l R s m args c B D ρ cA nL cc own dd) {m' i : Nat} {as : List Value} {o : z_Out} {S1 : z_St} (hm : m' < 211) (hC : z_C l B D ρ cA dd m' as S o S1) (hiw : z_isw m' = true) (hn : as.length = (z_mi.getD m' (0, 0, 0, 0, 0)).2.2.2.2) (hl : Cond.methodLink own i (z_m m').1 ∈ z_tb) (hs : Cond.static (z_m m').1 ∈ z_tb) (hr8 : z_cs r ≤ 8) (hd : decode cc pc = .ok (.invokestatic i, 3)) (hcell : z + z_mcz (z_isw m') o ≤ R.cells ∧ 6 * z + 6 * z_mcz (z_isw m') o ≤ R.slots)
    (ls : Array Slot) (H : Heap) (locs : List Loc) (hls : z_lr ρ ls nL L) (hw : z_Wd B D ρ cA S s H locs) : vx_Run p l e R s m args below meth c H locs z (6 * z) (z_mcz (z_isw m') o) (6 * z_mcz (z_isw m') o) (F0 m pc ls ((as.reverse ++ r).map (z_v ρ))) (r.map (z_v ρ)) (z_Qr B D ρ cA o S1 (as.map (z_v ρ)).toArray) (z_Qx B D ρ cA o S1) (fun q => B ≤ q) := by
  obtain ⟨hx, hb, hml, hown, hts, hE, hAp, hRf, hRl⟩ := hctx
  obtain ⟨hin, hy, hpar, hL30, -⟩ := z_okM_ok hm
  refine vx_runSX (As := as.map (z_v ρ)) (Ts := z_tb) (own := own) (index := i) (y := (z_m m').1) (bytes := (z_m m').2.1) (maxL := (z_m m').2.2.1) (ret := (z_m m').2.2.2.1) (hh := z_hh.getD m' []) (ws := z_ws m') ⟨hx, hb, hml, hown, hts⟩ hC (vx_cwSW ((z_mi.getD m' (0, 0, 0, 0, 0)).2.2.2.2) hts (z_goodIn (fun w hw => ?_)) (z_ws_codeW hiw) rfl rfl ⟨hy.1, hy.2, hpar⟩ ⟨by simp only [z_rm]; omega, by simp only [z_rm]; omega⟩) ⟨z_Pc.blind, hw.pre hE⟩ rfl (by simp [hn]) hls.1 (by simp) (z_hWs hr8) hd hcell
  unfold va_wsS at hw
  rcases List.mem_append.mp hw with h | h
  · simp only [List.mem_cons, List.not_mem_nil, or_false] at h
    rcases h with rfl | rfl | rfl
    · exact hl
    · exact hs
    · exact hin
  · exact z_ws_tb hm w h
theorem z_recv {a ci : Nat} {C : String} {H : Heap} {locs : List Loc} (hE : z_Env B D cA ρ s) (hw : z_Wd B D ρ cA S s H locs) (hci : ci < 10) (hO : z_isO ci a = true) (hC : (z_cls.getD ci ("", z_T0, 0)).1 = C) : ∃ cellB : Cell, H[ρ a]? = some cellB ∧ cellB.vm.isStatics = false ∧ s.vm.findClass C = some cellB.cls := by
  obtain ⟨ha, h0, hoc⟩ := z_isO_ok hci hO
  obtain ⟨C', T, hcl⟩ := z_cls_get hci
  have he : (z_wl ρ cA S)[a]? = some (ρ a, .inr (ci, z_fs ρ S.1 a)) := by rw [z_wl_get ha, z_ce_o h0, hoc]
  have hC' : C' = C := by
    rw [← hC, List.getD_eq_getElem?_getD, hcl]; rfl
  subst hC'
  exact va_recv hE.1 hw.1 hcl he
/-- a method of an object -/
theorem zm_run2 (hctx : z_Ctx p l R s m args c B D ρ cA nL cc own dd) {m' i a ci : Nat} {as : List Value} {o : z_Out} {S1 : z_St} (hm : m' < 211) (hC : z_C l B D ρ cA dd m' (.ref a :: as) S o S1) (hiw : z_isw m' = false) (hn : as.length = (z_mi.getD m' (0, 0, 0, 0, 0)).2.2.2.2) (hci : ci < 10) (hO : z_isO ci a = true) (hcl : (z_m m').1.cls = z_own.getD ci "") (hcl2 : (z_cls.getD ci ("", z_T0, 0)).1 = z_own.getD ci "") (hl : Cond.methodLink own i (z_m m').1 ∈ z_tb) (hs : Cond.instanceMethod (z_m m').1 ∈ z_tb) (hse : Cond.selects (z_m m').1.cls (z_m m').1 (z_m m').1 ∈ z_tb) (hr8 : z_cs r ≤ 8) (hd : decode cc pc = .ok (.invokevirtual i, 3)) (hcell : z + z_mcz (z_isw m') o ≤ R.cells ∧ 6 * z + 6 * z_mcz (z_isw m') o ≤ R.slots)
    (ls : Array Slot) (H : Heap) (locs : List Loc) (hls : z_lr ρ ls nL L) (hw : z_Wd B D ρ cA S s H locs) : vx_Run p l e R s m args below meth c H locs z (6 * z) (z_mcz (z_isw m') o) (6 * z_mcz (z_isw m') o) (F0 m pc ls (((.ref a :: as).reverse ++ r).map (z_v ρ))) (r.map (z_v ρ)) (z_Qr B D ρ cA o S1 ((.ref a :: as).map (z_v ρ)).toArray) (z_Qx B D ρ cA o S1) (fun q => B ≤ q) := by
  obtain ⟨hx, hb, hml, hown, hts, hE, hAp, hRf, hRl⟩ := hctx
  obtain ⟨hin, hy, hpar, hL30, -⟩ := z_okM_ok hm
  refine vx_runV (As := as.map (z_v ρ)) (b := ρ a) (C := (z_m m').1.cls) (Ts := z_tb) (own := own) (index := i) (y := (z_m m').1) (bytes := (z_m m').2.1) (maxL := (z_m m').2.2.1) (ret := (z_m m').2.2.2.1) (ws := z_ws m') ⟨hx, hb, hml, hown, hts⟩ hC (cwV ((z_mi.getD m' (0, 0, 0, 0, 0)).2.2.2.2) hts (z_goodIn (fun w hw => ?_)) (z_ws_code hiw) rfl rfl ⟨rfl, hy.1, hy.2, hpar⟩ ⟨by simp only [z_rm]; omega, by simp only [z_rm]; omega⟩) ⟨z_Pc.blind, z_recv hE hw hci hO (hcl2.trans hcl.symm), hw.pre hE⟩ rfl (by simp [hn]) hls.1 (by simp [z_v]) (z_hWs hr8) hd hcell
  unfold wsV at hw
  rcases List.mem_append.mp hw with h | h
  · simp only [List.mem_cons, List.not_mem_nil, or_false] at h
    rcases h with rfl | rfl | rfl | rfl
    · exact hl
    · exact hs
    · exact hse
    · exact hin
  · exact z_ws_tb hm w h
theorem zm_run3 (hctx : z_Ctx p l R s m args c B D ρ cA nL cc own dd) {m' i a ci : Nat} {as : List Value} {o : z_Out} {S1 : z_St} (hm : m' < 211) (hC : z_C l B D ρ cA dd m' (.ref a :: as) S o S1) (hiw : z_isw m' = false) (hn : as.length = (z_mi.getD m' (0, 0, 0, 0, 0)).2.2.2.2) (hci : ci < 10) (hO : z_isO ci a = true) (hcl : (z_m m').1.cls = z_own.getD ci "") (hcl2 : (z_cls.getD ci ("", z_T0, 0)).1 = z_own.getD ci "") (hl : Cond.methodLinkNest own i (z_m m').1 "SlipRoom" ∈ z_nw) (hs : Cond.instanceMethod (z_m m').1 ∈ z_tb) (hse : Cond.selects (z_m m').1.cls (z_m m').1 (z_m m').1 ∈ z_tb) (hr8 : z_cs r ≤ 8) (hd : decode cc pc = .ok (.invokevirtual i, 3)) (hcell : z + z_mcz (z_isw m') o ≤ R.cells ∧ 6 * z + 6 * z_mcz (z_isw m') o ≤ R.slots)
    (ls : Array Slot) (H : Heap) (locs : List Loc) (hls : z_lr ρ ls nL L) (hw : z_Wd B D ρ cA S s H locs) : vx_Run p l e R s m args below meth c H locs z (6 * z) (z_mcz (z_isw m') o) (6 * z_mcz (z_isw m') o) (F0 m pc ls (((.ref a :: as).reverse ++ r).map (z_v ρ))) (r.map (z_v ρ)) (z_Qr B D ρ cA o S1 ((.ref a :: as).map (z_v ρ)).toArray) (z_Qx B D ρ cA o S1) (fun q => B ≤ q) := by
  obtain ⟨hx, hb, hml, hown, hts, hE, hAp, hRf, hRl⟩ := hctx
  obtain ⟨hin, hy, hpar, hL30, -⟩ := z_okM_ok hm
  exact zn_runVN (As := as.map (z_v ρ)) (b := ρ a) (C := (z_m m').1.cls) (Ts := z_tb) (own := own) (index := i) (host := "SlipRoom") (y := (z_m m').1) (bytes := (z_m m').2.1) (maxL := (z_m m').2.2.1) (ret := (z_m m').2.2.2.1) (ws := z_ws m') ⟨hx, hb, hml, hown, hts⟩ hC ⟨va_cnB ((z_mi.getD m' (0, 0, 0, 0, 0)).2.2.2.2) hts (z_goodIn (z_ws_tb hm)) (z_ws_code hiw) rfl rfl (hE.2.1 _ hl) (hts _ hin) ⟨hy.1, hy.2, hpar⟩ ⟨by simp only [z_rm]; omega, by simp only [z_rm]; omega⟩, hts _ hs, hts _ hse⟩ ⟨z_Pc.blind, z_recv hE hw hci hO (hcl2.trans hcl.symm), hw.pre hE⟩ rfl (by simp [hn]) hls.1 (by simp [z_v]) (z_hWs hr8) hd hcell
end ZC
