def R_law : String := "SlipRoomLaw"
def lw_P (b : Addr) (xs : List Int32) (args : Array Value) (s : State) : Prop := args = #[.ref b] ∧ s.IntsAt b xs ∧ xs.length ≤ 384 ∧ (Jvm.Cond.and given_1 narrow_1).before args s = true
def lw_Q (_ : Array Value) (s : State) (o : Outcome) (t : State) : Prop := o = .returned (some (.int 1)) ∧ Framed s o t [] 600128 7301098
def lw_Z (below : List Frame) (a : Array Value) (s : State) : State → Prop := fun t => ∃ o, t.status = .running ∧ Ended t below o ∧ lw_Q a s o t
/-- the law's own end, with 1 on the stack, nothing written that was there before, its room as the claim has it -/
theorem lw_ret {p : Program} {l : Launch} {e : Env} {s : State} {m : MethodId} {below : List Frame} {meth : Method} {c : Code} {b : Nat} (hx : p.tables.exec = Jvm.exec) (hb : c.code = code) (hr : meth.sig.returnType = ret) (hlocks : meth.locks = false) {pc : Nat} {H : Heap} {ls : Array Slot} (hdg : decode code pc = .ok (.ireturn, 1)) : W p l e room_1 s m #[Value.ref b] below meth c H [] 600128 7301098 (lw_Z below #[Value.ref b] s) (F0 m pc ls [.int 1]) := by
  intro T hT X
  obtain ⟨fs, hret, hrun, hended, hW, hframe⟩ := X.leave (v := some (.int 1)) (hlocks := hlocks) (fun h => by rw [hr] at h; cases h)
  have hmeth' : T.vm.method? m = some meth := X.method'
  refine ⟨T.setFrames fs, ?_, .returned (some (.int 1)), hrun, hended, rfl, ⟨_, rfl⟩, hW, hframe⟩
  jvm_step X.here [X.here.top, hx, hb, hdg, hmeth', hr, ret, narrow_b1]
  (try refine ⟨rfl, ?_⟩); (try refine ⟨rfl, ?_⟩)
  first | (intro acts; rw [hret _ acts rfl rfl rfl]) | rw [hret _ _ rfl rfl rfl]
  exact Steps.refl _
/-- what holds at the law's entry: the machine, the code, the tables' words (any of lw_tbl by 'hts w (by decide +kernel)'), the script of L ints xs at the cell b, what the Statement gives of the start (any of its parts by flat_of_before) -/
def lw_At (p : Program) (s : State) (m : MethodId) (meth : Method) (c : Code) (b L : Nat) (xs : Nat → Int32) : Prop :=
  p.tables.exec = Jvm.exec ∧ c.code = code ∧ meth.sig.returnType = ret ∧ c.maxLocals = 7 ∧ s.vm.findClass R_law = some m.cls ∧ (∀ w ∈ lw_tbl, w.before #[Value.ref b] s = true) ∧ va_X b L xs s s.heap ∧ b < s.heap.size ∧ meth.locks = false ∧ (Jvm.Cond.and given_1 narrow_1).before #[Value.ref b] s = true
set_option maxHeartbeats 8000000 in
set_option maxRecDepth 100000 in
theorem z_loop {p : Program} {e : Env} {s : State} {m : MethodId} {below : List Frame} {meth : Method} {c : Code} {l : Launch} (hl0 : l.stackTraces = false) {b L : Nat} {xs : Nat → Int32} {S' : z_St} (hlaw : z_R211 1000 z_fuel 23 20000 z_L0 [] (z_S0 L xs) = some (.inl (some (.int 1)), S')) (hL : L ≤ 384) (C0 : lw_At p s m meth c b L xs) : W p l e room_1 s m #[Value.ref b] below meth c s.heap [] 0 0 (lw_Z below #[Value.ref b] s) (entryFrame m ([Value.ref b] : List Value).toArray 7) := by
  obtain ⟨hx, hcc, hr, hml, hown, hts, hX, hbl, hlocks, hgv⟩ := C0
  obtain ⟨D, cA, ρ, hE, hρ, hb⟩ := z_kE_of hts hgv b
  have htb : ∀ w ∈ z_tb, w.before #[Value.ref b] s = true := fun w hw => hts w (zt_in hw)
  refine z_start (n := L) (xs := xs) (D := D) (cA := cA) (ρ := ρ) ⟨hx, hcc, hml, hown, htb, hE, hρ⟩ hb ?_
  have hAp : z_Ap s.heap.size ρ := ⟨fun i j hi hj e => by rw [hρ i hi, hρ j hj] at e; omega, fun i hi => by rw [hρ i hi]; omega⟩
  have hctx : z_Ctx p l room_1 s m #[Value.ref b] c s.heap.size D ρ cA 7 (z_m 211).2.1 "SlipRoomLaw" 1000 := ⟨hx, hcc, hml, hown, htb, hE.1, hAp, by decide, by decide⟩
  have hRd : z_Rd p l e room_1 s m #[Value.ref b] below meth c (lw_Z below #[Value.ref b] s) s.heap.size D ρ cA 7 (z_m 211).2.1 "SlipRoomLaw" 1000 L xs (z_vbm 211) true (some .boolean) [] (z_ew 1000) (.inl (some (.int 1)), S') := by
    refine ⟨fun _ => ⟨by decide, by decide⟩, fun _ => ⟨by rw [hb]; exact hX, by rw [hb]; exact hbl, by rw [hb]; exact Nat.not_le.mpr hbl⟩, z_sound hl0 hAp 1000, (z_mx 1000).1, (z_mx 1000).2, fun m' as S o S1 h1 h2 => z_fr_ew 1000 m' as S o S1 h1 h2, fun q => Bool.noConfusion q, z_str l _ D ρ cA p e _ s m _ below meth c _ _ _ _ 1000 hctx, ?_, fun q => Bool.noConfusion q, fun q => Bool.noConfusion q, fun q => Bool.noConfusion q⟩
    intro pc z L' S2 x hz hd hrb ho
    cases ho
    intro ls H locs hl hw
    have hz2 : z ≤ 100000 := hz.2
    refine W.widen (k := 600128) (n := 7301098) (by omega) (by omega) (va_forget (fun q hq => hw.2.2.2 q hq) ?_)
    exact lw_ret hx hcc hr hlocks hd
  exact z_run_ok hctx hRd (b := z_b211) z_okb_211 (z_xM_ok (m := 211) (by decide)) z_fuel 23 20000 z_L0 [] (z_S0 L xs) ⟨fun q => Bool.noConfusion q, by decide⟩ (fun _ => ⟨fun j hj => rfl, rfl, hL⟩) hlaw
