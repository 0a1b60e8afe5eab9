/-! a method's answer in the abstract machine is its contract in the machine -/
theorem z_sl_len (ρ : Nat → Nat) : ∀ (as : List Value), (lg_sl (as.map (z_v ρ))).length = (z_sl as).length
  | [] => rfl
  | v :: r => by
    have h := z_sl_len ρ r
    cases v <;> simp [lg_sl, z_sl, z_v, Value.category] at h ⊢ <;> omega
section ZE
variable {p : Program} {l : Launch} {e : Env} {R : Room} {s : State} {m : MethodId} {args : Array Value} {below : List Frame} {meth : Method} {c : Code} {Q : State → Prop} {B : Nat} {D : va_G} {ρ : Nat → Nat} {cA : Nat → ClassId} {nL : Nat}
variable {cc : ByteArray} {pc z len : Nat} {L : z_Lo} {st r : List Value} {S S1 : z_St} {own : String} {dd : Nat} {rt : Option FieldType} {o : z_Out} {mc : Nat}
theorem z_wide {H : Heap} {locs : List Loc} {cells slots k n : Nat} {g : JFrame} (h1 : cells ≤ k) (h2 : slots ≤ n) (kk : W p l e R s m args below meth c H locs k n Q g) : W p l e R s m args below meth c H locs cells slots Q g := fun T hT X => kk T hT (stand_widen X h1 h2)
def z_MQ (B : Nat) (D : va_G) (ρ : Nat → Nat) (cA : Nat → ClassId) (o : z_Out) (S1 : z_St) (below : List Frame) (args : Array Value) (s : State) (mc : Nat) : State → Prop := vx_MQ below (z_Qr B D ρ cA o S1) (z_Qx B D ρ cA o S1) args s mc (6 * mc) (fun q => B ≤ q)
theorem z_Wd.q {v : Option Value} {H : Heap} {locs : List Loc} (hw : z_Wd B D ρ cA S1 s H locs) : ∀ t : State, t.heap = H → s.WarmedH t.vm → z_Qr B D ρ cA (.inl v) S1 args s (.returned (v.map (z_v ρ))) t := fun t ht _ => ⟨⟨v, rfl, rfl⟩, by rw [ht]; exact hw.1, hw.2.F ht⟩
theorem z_endI (hx : p.tables.exec = Jvm.exec) (hb : c.code = cc) (hr : meth.sig.returnType = rt) (hlocks : meth.locks = false) {x : Int32} (hrb : z_rb rt x = true) (hd : decode cc pc = .ok (.ireturn, 1)) : z_J p l e R s m args below meth c (z_MQ B D ρ cA (.inl (some (.int x))) S1 below args s mc) B D ρ cA nL pc 0 L [.int x] S1 := fun ls H locs hl hw => by
  have hn : ∃ ty, rt = some ty ∧ narrow ty (.int x) = .int x := by
    unfold z_rb at hrb
    split at hrb
    · exact ⟨_, rfl, rfl⟩
    · simp only [Bool.or_eq_true, decide_eq_true_eq] at hrb
      rcases hrb with rfl | rfl <;> exact ⟨_, rfl, rfl⟩
    · cases hrb
  obtain ⟨ty, rfl, hn⟩ := hn
  exact vx_ret (z_wide (Nat.zero_le _) (Nat.zero_le _) (W.zret hx hb hr hn hw.q hw.2.2.2 hd hlocks))
theorem z_endA (hx : p.tables.exec = Jvm.exec) (hb : c.code = cc) (hr : meth.sig.returnType = rt) (hlocks : meth.locks = false) {x : Nat} (hrf : z_rf rt = true) (hd : decode cc pc = .ok (.areturn, 1)) : z_J p l e R s m args below meth c (z_MQ B D ρ cA (.inl (some (.ref x))) S1 below args s mc) B D ρ cA nL pc 0 L [.ref x] S1 := fun ls H locs hl hw => by
  unfold z_rf at hrf
  split at hrf
  · exact vx_ret (z_wide (Nat.zero_le _) (Nat.zero_le _) (W.aret hx hb hr (Or.inl ⟨_, rfl⟩) (Or.inr ⟨_, rfl⟩) hw.q hw.2.2.2 hd hlocks))
  · exact vx_ret (z_wide (Nat.zero_le _) (Nat.zero_le _) (W.aret hx hb hr (Or.inr ⟨_, rfl⟩) (Or.inr ⟨_, rfl⟩) hw.q hw.2.2.2 hd hlocks))
  · cases hrf
theorem z_endV (hx : p.tables.exec = Jvm.exec) (hb : c.code = cc) (hr : meth.sig.returnType = none) (hlocks : meth.locks = false) (hd : decode cc pc = .ok (.return_, 1)) : z_J p l e R s m args below meth c (z_MQ B D ρ cA (.inl none) S1 below args s mc) B D ρ cA nL pc 0 L [] S1 := fun ls H locs hl hw =>
  vx_ret (z_wide (Nat.zero_le _) (Nat.zero_le _) (W.vret hx hb hr hw.q hw.2.2.2 hd hlocks))
theorem z_endT (hctx : z_Ctx p l R s m args c B D ρ cA nL cc own dd) (hl0 : l.stackTraces = false) (htab : ∀ x ∈ c.exceptionTable.toList, False) (hlocks : meth.locks = false) {ee : Nat} {ops : List Nat} (hRc : 1 ≤ R.cells ∧ 6 ≤ R.slots) (hmc : 1 ≤ mc) (ht : z_okT cc own pc len (ee :: ops) = true) : z_J p l e R s m args below meth c (z_MQ B D ρ cA (.inr ee) S1 below args s mc) B D ρ cA nL pc 0 L [] S1 := fun ls H locs hl hw => by
  obtain ⟨hx, hb, hml, hown, hts, hE, hAp, hRf, hRl⟩ := hctx
  unfold z_okT at ht
  split at ht
  · rename_i e0 ik isx ic w ti x9 hops
    cases hops
    simp only [Bool.and_eq_true, decide_eq_true_eq, List.any_eq_true] at ht
    obtain ⟨⟨⟨⟨⟨⟨⟨h1, h2⟩, h3⟩, h4⟩, h5⟩, q, hq, h6⟩, h7⟩, h8⟩ := ht
    have hee : ee < 2 := Nat.blt_eq.mp h1
    obtain ⟨sa, hsa⟩ := hE.2.2.2.1.1 q hq
    rw [Nat.eq_of_beq_eq_true h6] at hsa
    rw [h2] at hown h5
    have hic : ic = (z_xi ee).1 := by
      rw [Nat.eq_of_beq_eq_true h7]
      have h2e : ee = 0 ∨ ee = 1 := by omega
      rcases h2e with rfl | rfl <;> rfl
    rw [hic] at h8
    have hd4 : ∃ k, ((decode cc (pc + 4) = .ok (.ldc isx, 2) ∧ k = 6) ∨ (decode cc (pc + 4) = .ok (.ldc_w isx, 3) ∧ k = 7)) ∧ decode cc (pc + k) = .ok (.invokespecial (z_xi ee).1, 3) ∧ decode cc (pc + k + 3) = .ok (.athrow, 1) := by
      cases hw9 : Nat.beq w 0 with
      | true =>
        rw [hw9] at h8
        simp only [cond_true, Bool.and_eq_true] at h8
        exact ⟨6, Or.inl ⟨z_dec_ok h8.1.1.2, rfl⟩, z_dec_ok h8.1.2, z_dec_ok h8.2⟩
      | false =>
        rw [hw9] at h8
        simp only [cond_false, Bool.and_eq_true] at h8
        exact ⟨7, Or.inr ⟨z_dec_ok h8.1.1.2, rfl⟩, z_dec_ok h8.1.2, z_dec_ok h8.2⟩
    obtain ⟨k, d4, d6, d9⟩ := hd4
    refine z_thr (A := fun q => B ≤ q) hx hb hl0 hee hown hts hE.2.2.2.2.2.2 (z_inT_ok h5) hsa hE.2.2.1.1 hE.2.2.1.2.1 hw.2 (by rw [hml]; exact hl.1) (z_dec_ok h3) (z_dec_ok h4) d4 d6 d9 htab (by omega) (by simp; omega) (by omega) (by omega) hlocks (fun t _ hsz hkp => ?_) hw.2.2.2 (by omega) (by omega)
    refine ⟨⟨ee, rfl, rfl⟩, hw.1.kept (fun k q hk => hkp q.1 (vx_lt hw.1 hk)), Nat.le_trans hw.2.1 hsz, fun q hq hB => ?_⟩
    rw [hkp q (Nat.lt_of_lt_of_le hq hw.2.1)]
    exact hw.2.2.1 q hq hB
  · cases ht
/-- not caught: the caller has it -/
theorem z_endX (htab : ∀ x ∈ c.exceptionTable.toList, False) (hlocks : meth.locks = false) (hRc : ∀ ee, o = .inr ee → 1 ≤ R.cells ∧ 6 ≤ R.slots ∧ 1 ≤ mc) : z_Xo p l e R s m args below meth c (z_MQ B D ρ cA o S1 below args s mc) B D ρ cA nL [] (o, S1) pc L := by
  intro ee S2 h
  have h2 : (o, S1) = (.inr ee, S2) := (Option.some.inj h).symm
  cases h2
  obtain ⟨k1, k2, k3⟩ := hRc ee rfl
  refine ⟨k1, k2, fun ls H locs q ce rest hl hw hc hv hcl => ?_⟩
  refine vx_out (fun x hx => (htab x hx).elim) hlocks hc hv hcl (fun t ht _ => ?_) hw.2.2.2 k3 (by omega)
  exact ⟨⟨ee, rfl, rfl⟩, by rw [ht]; exact hw.1, hw.2.F ht⟩
/-- a handler of the law's small methods: the thing is laid away, a number answered -/
def z_hc2 (cc : ByteArray) (h : Nat) (v : Int32) : Bool := match decode cc h with
  | .ok (.iconst n, 1) => decide (Int32.ofInt n = v) && z_dec cc (h + 1) .ireturn 1
  | _ => false
def z_hc (cc : ByteArray) (mL h : Nat) (v : Int32) : Bool := match decode cc h with
  | .ok (.astore k, 2) => Nat.blt k mL && z_hc2 cc (h + 2) v
  | .ok (.astore_n k, 1) => Nat.blt k.val mL && z_hc2 cc (h + 1) v
  | _ => false
theorem z_hc2_ok (hx : p.tables.exec = Jvm.exec) (hb : c.code = cc) (hr : meth.sig.returnType = some .int) (hlocks : meth.locks = false) {h : Nat} {v : Int32} (hh : z_hc2 cc h v = true) {ls : Array Slot} {H : Heap} {locs : List Loc} (hw : z_Wd B D ρ cA S1 s H locs) {cells slots : Nat} (h1 : cells ≤ mc) (h2 : slots ≤ 6 * mc) :
    W p l e R s m args below meth c H locs cells slots (z_MQ B D ρ cA (.inl (some (.int v))) S1 below args s mc) (F0 m h ls []) := by
  unfold z_hc2 at hh
  split at hh
  · rename_i n hd
    simp only [Bool.and_eq_true, decide_eq_true_eq] at hh
    refine lv_iconst hx hb hd hh.1 ?_
    exact vx_ret (z_wide h1 h2 (W.zret hx hb hr rfl hw.q hw.2.2.2 (z_dec_ok hh.2) hlocks))
  · cases hh
theorem z_hc_ok (hx : p.tables.exec = Jvm.exec) (hb : c.code = cc) (hr : meth.sig.returnType = some .int) (hlocks : meth.locks = false) {h mL : Nat} {v : Int32} (hh : z_hc cc mL h v = true) {ls : Array Slot} {H : Heap} {locs : List Loc} {q : Addr} (hl : z_lr ρ ls mL L) (hw : z_Wd B D ρ cA S1 s H locs) {cells slots : Nat} (h1 : cells ≤ mc) (h2 : slots ≤ 6 * mc) :
    W p l e R s m args below meth c H locs cells slots (z_MQ B D ρ cA (.inl (some (.int v))) S1 below args s mc) (F0 m h ls [.ref q]) := by
  unfold z_hc at hh
  split at hh
  · rename_i k hd
    simp only [Bool.and_eq_true] at hh
    exact lv_astore hx hb hd (z_lr_has hl) (Nat.blt_eq.mp hh.1) rfl (fun ls' h' => z_hc2_ok hx hb hr hlocks hh.2 hw h1 h2)
  · rename_i k hd
    simp only [Bool.and_eq_true] at hh
    exact lv_astore_n hx hb hd rfl (z_lr_has hl) (Nat.blt_eq.mp hh.1) rfl (fun ls' h' => z_hc2_ok hx hb hr hlocks hh.2 hw h1 h2)
  · cases hh
end ZE
