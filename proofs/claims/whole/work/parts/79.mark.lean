/-! a page is read -/
def mk1 (A : aS) (b r q : Nat) : aS := aU (aU A 65 (401 * (8 * b + r) + q + 1) 1) 24 (8 * b + r) (A 24 (8 * b + r) + 1)
def mkA (A : aS) (b r q : Nat) (h : Int) : aS := if rd A b r q = true then A else if A 24 (8 * b + r) + 1 = A 11 b then aU (mk1 A b r q) 25 (8 * b + r) h else mk1 A b r q
theorem bit_sh : ∀ k : Nat, k < 64 → ∀ j : Nat, j < 64 → (lN 1 <<< ((iI (k : Int)).toInt64 &&& 63)).toBitVec.getLsbD j = decide (j = k) := by decide +kernel
theorem cell_ne {b r b' r' p q : Nat} (hr : r < 8) (hr' : r' < 8) (hp : p < 401) (hq : q < 400) (h : 401 * (8 * b' + r') + p = 401 * (8 * b + r) + q + 1) : b' = b ∧ r' = r ∧ p = q + 1 := by
  have h1 : 8 * b' + r' = 8 * b + r := by omega
  omega
section MAR
variable {p : Nat} {A : aS} {S : z_St}
theorem rd_lt (hw : wf A) {b r q : Nat} (hb : (b : Int) < A 2 0) (hr : (r : Int) < A 3 0) (hq : (q : Int) < A 11 b) (h : ¬ rd A b r q = true) : A 24 (8 * b + r) < A 11 b := by
  have h1 := hw.b
  have h2 := hw.r
  have hg := hw.pg hb
  obtain ⟨P, hP⟩ : ∃ P : Nat, A 11 b = P := ⟨(A 11 b).toNat, by omega⟩
  rw [(hw.cl (j := 8 * b + r) (by omega)).2.2.2.1, ← rct_p hw hb hr hP, hP]
  have h3 := fb_ct_le (rd A b r) P
  have h4 : fb_ct (rd A b r) P ≠ P := fun e => h ((fb_ct_all.1 e) q (by omega))
  omega
theorem rct_mk (A : aS) {b r q j : Nat} (hr : r < 8) (hq : q < 400) : rct (mk1 A b r q) j = if j = 8 * b + r then fb_ct (fun x => if x = q then true else rd A b r x) 400 else rct A j := by
  unfold rct
  by_cases e : j = 8 * b + r
  · rw [if_pos e]
    refine fb_ct_cong (fun x hx => ?_)
    have e1 : mk1 A b r q 65 (401 * j + x + 1) = if 401 * j + x + 1 = 401 * (8 * b + r) + q + 1 then 1 else A 65 (401 * j + x + 1) := by
      unfold mk1
      rw [aU_r, if_neg (by omega), aU_r]
      by_cases g : 401 * j + x + 1 = 401 * (8 * b + r) + q + 1
      · rw [if_pos ⟨rfl, g⟩, if_pos g]
      · rw [if_neg (fun z => g z.2), if_neg g]
    rw [e1, e]
    by_cases g : x = q
    · rw [if_pos (by omega), if_pos g]
      rfl
    · rw [if_neg (by omega), if_neg g]
      rfl
  · rw [if_neg e]
    refine fb_ct_cong (fun x hx => ?_)
    have e1 : mk1 A b r q 65 (401 * j + x + 1) = A 65 (401 * j + x + 1) := by
      unfold mk1
      rw [aU_r, if_neg (by omega), aU_r, if_neg (by omega)]
    rw [e1]
theorem wf_mk (hw : wf A) {b r q : Nat} {h : Int} (hb : (b : Int) < A 2 0) (hr : (r : Int) < A 3 0) (hq : (q : Int) < A 11 b) (h0 : 0 ≤ h) (h8 : h ≤ 8784) : wf (mkA A b r q h) := by
  have hb2 := hw.b
  have hr2 := hw.r
  have hg := hw.pg hb
  unfold mkA
  by_cases q1 : rd A b r q = true
  · rw [if_pos q1]; exact hw
  · rw [if_neg q1]
    have hlt := rd_lt hw hb hr hq q1
    obtain ⟨g1, ⟨a1, a2, a3, a4, a5, a6, a7, a8, a9, a10⟩, g3⟩ := id hw
    have hct : fb_ct (fun x => if x = q then true else rd A b r x) 400 = rct A (8 * b + r) + 1 := by
      have := fb_ct_upd (rd A b r) true (i := q) (n := 400) (by omega)
      rw [if_neg q1, if_pos rfl] at this
      have e : rct A (8 * b + r) = fb_ct (rd A b r) 400 := rfl
      omega
    have m24 : ∀ j, mk1 A b r q 24 j = if j = 8 * b + r then A 24 (8 * b + r) + 1 else A 24 j := by
      intro j
      unfold mk1
      rw [aU_r]
      by_cases e : j = 8 * b + r
      · rw [if_pos ⟨rfl, e⟩, if_pos e]
      · rw [if_neg (fun z => e z.2), if_neg e, aU_r, if_neg (by omega)]
    have m65 : ∀ j, mk1 A b r q 65 j = if j = 401 * (8 * b + r) + q + 1 then 1 else A 65 j := by
      intro j
      unfold mk1
      rw [aU_r, if_neg (by omega), aU_r]
      by_cases e : j = 401 * (8 * b + r) + q + 1
      · rw [if_pos ⟨rfl, e⟩, if_pos e]
      · rw [if_neg (fun z => e z.2), if_neg e]
    have b24 : ∀ j, j < 80 → mk1 A b r q 24 j = (rct (mk1 A b r q) j : Int) := by
      intro j hj
      rw [m24, rct_mk A (by omega) (by omega)]
      by_cases e : j = 8 * b + r
      · rw [if_pos e, if_pos e, hct, (a7 _ (show 8 * b + r < 80 by omega)).2.2.2.1]
        omega
      · rw [if_neg e, if_neg e]
        exact (a7 j hj).2.2.2.1
    have b8 : ∀ b' r' : Nat, b' < 10 → r' < 8 → (A 2 0 ≤ b' ∨ A 3 0 ≤ r') → A 22 (8 * b' + r') = 0 ∧ ∀ p : Nat, p < 401 → mk1 A b r q 65 (401 * (8 * b' + r') + p) = 0 := by
      intro b' r' hb' hr' ho
      refine ⟨(a8 b' r' hb' hr' ho).1, fun p hp => ?_⟩
      rw [m65, if_neg (fun e => by have := cell_ne (show r < 8 by omega) hr' hp (show q < 400 by omega) e; omega)]
      exact (a8 b' r' hb' hr' ho).2 p hp
    have b9 : ∀ b' r' : Nat, (b' : Int) < A 2 0 → (r' : Int) < A 3 0 → ∀ p : Nat, p < 401 → (mk1 A b r q 65 (401 * (8 * b' + r') + p) = 0 ∨ mk1 A b r q 65 (401 * (8 * b' + r') + p) = 1 ∧ 1 ≤ p ∧ (p : Int) ≤ A 11 b') := by
      intro b' r' hb' hr' p hp
      rw [m65]
      by_cases e : 401 * (8 * b' + r') + p = 401 * (8 * b + r) + q + 1
      · obtain ⟨e1, e2, e3⟩ := cell_ne (show r < 8 by omega) (show r' < 8 by omega) hp (show q < 400 by omega) e
        rw [if_pos e]
        exact Or.inr ⟨rfl, by omega, by rw [e1]; omega⟩
      · rw [if_neg e]
        exact (a9 b' r' hb' hr').2 p hp
    have h25 : A 25 (8 * b + r) = -1 := (a9 b r hb hr).1.2 hlt
    by_cases q2 : A 24 (8 * b + r) + 1 = A 11 b
    · rw [if_pos q2]
      have hL : LW A (aU (mk1 A b r q) 25 (8 * b + r) h) := by
        refine ⟨a1, a2, a3, a4, a5, a6, fun j hj => ⟨(a7 j hj).1, (a7 j hj).2.1, (a7 j hj).2.2.1, b24 j hj, ?_⟩, b8, fun b' r' hb' hr' => ⟨?_, b9 b' r' hb' hr'⟩, a10⟩
        · show -1 ≤ (if 25 = 25 ∧ j = 8 * b + r then h else A 25 j) ∧ (if 25 = 25 ∧ j = 8 * b + r then h else A 25 j) ≤ 8784
          by_cases e : j = 8 * b + r
          · rw [if_pos ⟨rfl, e⟩]; omega
          · rw [if_neg (fun z => e z.2)]; exact (a7 j hj).2.2.2.2
        · show (if 25 = 25 ∧ 8 * b' + r' = 8 * b + r then h else A 25 (8 * b' + r')) = -1 ↔ mk1 A b r q 24 (8 * b' + r') < A 11 b'
          rw [m24]
          by_cases e : 8 * b' + r' = 8 * b + r
          · have e1 : b' = b := by omega
            rw [if_pos ⟨rfl, e⟩, if_pos e, e1]
            omega
          · rw [if_neg (fun z => e z.2), if_neg e]
            exact (a9 b' r' hb' hr').1
      exact ⟨g1, hL, g3⟩
    · rw [if_neg q2]
      have hL : LW A (mk1 A b r q) := by
        refine ⟨a1, a2, a3, a4, a5, a6, fun j hj => ⟨(a7 j hj).1, (a7 j hj).2.1, (a7 j hj).2.2.1, b24 j hj, (a7 j hj).2.2.2.2⟩, b8, fun b' r' hb' hr' => ⟨?_, b9 b' r' hb' hr'⟩, a10⟩
        show A 25 (8 * b' + r') = -1 ↔ mk1 A b r q 24 (8 * b' + r') < A 11 b'
        rw [m24]
        by_cases e : 8 * b' + r' = 8 * b + r
        · have e1 : b' = b := by omega
          rw [if_pos e, e1, show 8 * b + r' = 8 * b + r by omega]
          omega
        · rw [if_neg e]
          exact (a9 b' r' hb' hr').1
      exact ⟨g1, hL, g3⟩
theorem mkA_o (A : aS) (b r q : Nat) (h : Int) {x j : Nat} (h1 : x ≠ 65) (h2 : x ≠ 24) (h3 : x ≠ 25) : mkA A b r q h x j = A x j := by
  unfold mkA mk1
  by_cases q1 : rd A b r q = true
  · rw [if_pos q1]
  · rw [if_neg q1]
    by_cases q2 : A 24 (8 * b + r) + 1 = A 11 b
    · rw [if_pos q2, aU_r, if_neg (by omega), aU_r, if_neg (by omega), aU_r, if_neg (by omega)]
    · rw [if_neg q2, aU_r, if_neg (by omega), aU_r, if_neg (by omega)]
theorem dD_65 {j : Nat} {v : Int} (y : Nat) : dD (aU A 65 j v) y = dD A y := dD_u (by decide) y
theorem c_mark (h : CI p A S) (hw : wf A) {b r q : Nat} {t : Int} (hb : (b : Int) < A 2 0) (hr : (r : Int) < A 3 0) (hq : (q : Int) < A 11 b) (d : Nat) : ∃ S', z_ew (d + 2) 8 [.ref 24, .int (iI ((r * 10 + b : Nat) : Int)), .int (iI ((q + 1 : Nat) : Int)), .int (iI (A 11 b)), .int (iI t)] S = some (.inl none, S') ∧ CI p (mkA A b r q t) S' ∧ fC S S' := by
  have hb2 := hw.b
  have hr2 := hw.r
  have hg := hw.pg hb
  rw [zx_8, c_isR h (by omega) (by omega) (by omega) d, cli_i]
  unfold mkA
  by_cases q1 : rd A b r q = true
  · rw [if_neg (by rw [b01]; exact fun e => e q1), if_pos q1]
    exact ⟨S, rfl, h, fC.rf S⟩
  · rw [if_pos (by rw [b01]; exact q1), if_neg q1]
    have hlt := rd_lt hw hb hr hq q1
    have h24 := (hw.cl (j := 8 * b + r) (by omega)).2.2.2.1
    have e1 : iI ((q + 1 : Nat) : Int) - nI 1 = iI (q : Int) := by
      rw [iI_n, iI_sub]
      congr 1
      omega
    have e2 : iI (q : Int) / nI 64 = iI ((q / 64 : Nat) : Int) := by
      rw [iI_n, iI_div (by omega) (by omega) (by decide) (by decide)]
      congr 1
    have e3 : iI (q : Int) - iI ((q / 64 : Nat) : Int) * nI 64 = iI ((q % 64 : Nat) : Int) := by
      rw [iI_n, iI_mul, iI_sub]
      congr 1
      omega
    have e4 : iI ((r * 10 + b : Nat) : Int) * nI 7 + iI ((q / 64 : Nat) : Int) = iI (((r * 10 + b) * 7 + q / 64 : Nat) : Int) := by
      rw [iI_n, iI_mul, iI_add]
      congr 1
    obtain ⟨p1, p2, p3, p4, p5, p6⟩ := id h
    have hD : ∀ x, x < 65 → dD A x ≤ cn x := fun x hx => cD_le hw x hx
    have cx24 : cx 24 (8 * b + r) = r * 10 + b := by show (8 * b + r) % 8 * 10 + (8 * b + r) / 8 = _; omega
    have cx25 : cx 25 (8 * b + r) = r * 10 + b := by show (8 * b + r) % 8 * 10 + (8 * b + r) / 8 = _; omega
    have k1 := p4.w p1 hD (x := 24) (j := 8 * b + r) (v := A 24 (8 * b + r) + 1) (by decide) (show 8 * b + r < 80 by omega)
    rw [cx24] at k1
    have k1 : CR p (aU A 24 (8 * b + r) (A 24 (8 * b + r) + 1)) (dD A) (z_w1 S.1 30 (r * 10 + b) (iI (A 24 (8 * b + r) + 1)), S.2) := k1
    have bits : ∀ (M : z_Mi) (B : aS), B 65 = aU A 65 (401 * (8 * b + r) + q + 1) 1 65 → BR B 32 (M, z_w2 S.2 32 ((r * 10 + b) * 7 + q / 64) (S.2 32 ((r * 10 + b) * 7 + q / 64) ||| (lN 1 <<< (Int32.toInt64 (iI ((q % 64 : Nat) : Int)) &&& 63)))) := by
      intro M B hB b' r' hb' hr' x hx
      rw [hB]
      show (z_w2 S.2 32 ((r * 10 + b) * 7 + q / 64) (S.2 32 ((r * 10 + b) * 7 + q / 64) ||| (lN 1 <<< (Int32.toInt64 (iI ((q % 64 : Nat) : Int)) &&& 63))) 32 ((r' * 10 + b') * 7 + x / 64)).toBitVec.getLsbD (x % 64) = _
      have old := p5 b' r' hb' hr' x hx
      rw [z_w2_r, aU_r]
      by_cases e : (r' * 10 + b') * 7 + x / 64 = (r * 10 + b) * 7 + q / 64
      · have e5 : r' * 10 + b' = r * 10 + b := by omega
        have e6 : r' = r ∧ b' = b := by omega
        have e7 : x / 64 = q / 64 := by omega
        obtain ⟨e8, e9⟩ := e6
        subst e8
        subst e9
        rw [if_pos ⟨rfl, e⟩, Int64.toBitVec_or, BitVec.getLsbD_or, bit_sh _ (by omega) _ (by omega)]
        rw [e7] at old
        rw [old]
        by_cases g : x = q
        · subst g
          rw [if_pos ⟨rfl, rfl⟩]
          simp
          omega
        · rw [if_neg (by omega), decide_eq_false (show ¬ x % 64 = q % 64 by omega), Bool.or_false]
      · by_cases hx4 : x < 400
        rotate_left
        · rw [if_neg (fun z => e z.2)]
          rw [decide_eq_false hx4, Bool.false_and] at old ⊢
          exact old
        rw [if_neg (fun z => e z.2), if_neg (fun z => by
          have := cell_ne (b := b) (r := r) (b' := b') (r' := r') (p := x + 1) (q := q) (by omega) hr' (by omega) (by omega) (by omega)
          obtain ⟨u1, u2, u3⟩ := this
          have u4 : x = q := by omega
          apply e
          rw [u1, u2, u4])]
        exact old
    have kept : ∀ (M : z_Mi) (w : Nat) (v : Int64), A 8 0 = 1 → BR (kA A) 46 (M, z_w2 S.2 32 w v) := by
      intro M w v h8 b' r' hb' hr' x hx
      show (z_w2 S.2 32 w v 46 _).toBitVec.getLsbD _ = _
      rw [z_w2_r, if_neg (by omega)]
      exact p6 h8 b' r' hb' hr' x hx
    have tw : z_w1 S.1 30 (r * 10 + b) (iI (A 24 (8 * b + r) + 1)) 30 (r * 10 + b) = iI (A 24 (8 * b + r) + 1) := by rw [z_w1_r, if_pos ⟨rfl, rfl⟩]
    rw [zq_8_10, e1, e2, e3, e4, ixN (by omega) (by decide), ixN (by omega) (by decide), tN (by omega), tN (by omega), c_24 h (by omega) (by omega), iI_n 1, iI_add, show A 24 (8 * b + r) + ((1 : Nat) : Int) = A 24 (8 * b + r) + 1 by omega]
    simp only [cond_true, tw]
    by_cases q2 : A 24 (8 * b + r) + 1 = A 11 b
    · rw [if_pos (by rw [q2]), zq_8_65, if_pos q2]
      have k2 := k1.w p1 hD (x := 25) (j := 8 * b + r) (v := t) (by decide) (show 8 * b + r < 80 by omega)
      rw [cx25] at k2
      refine ⟨_, rfl, ⟨p1, ?_, ?_, ?_, bits _ _ ?_, ?_⟩, ?_⟩
      · dsimp only
        rw [z_w1_r, if_neg (by omega), z_w1_r, if_neg (by omega)]; exact p2
      · dsimp only
        rw [z_w1_r, if_neg (by omega), z_w1_r, if_neg (by omega)]; exact p3
      · intro x hx j hj
        have hj : j < dD A x := by
          have e9 : dD (aU (mk1 A b r q) 25 (8 * b + r) t) x = dD A x := by
            rw [dD_u (by decide)]
            unfold mk1
            rw [dD_u (by decide), dD_u (by decide)]
          rwa [e9] at hj
        have := k2 x hx j hj
        rw [show aU (mk1 A b r q) 25 (8 * b + r) t x j = aU (aU A 24 (8 * b + r) (A 24 (8 * b + r) + 1)) 25 (8 * b + r) t x j by
          unfold mk1
          simp only [aU_r]
          rw [if_neg (show ¬ (x = 65 ∧ j = 401 * (8 * b + r) + q + 1) by omega)]]
        exact this
      · funext j
        unfold mk1
        rw [aU_r, if_neg (by omega), aU_r, if_neg (by omega)]
      · intro h8
        exact kept _ _ _ h8
      · intro a ha
        refine ⟨?_, ?_⟩
        · dsimp only
          rw [z_w1_ne (by omega), z_w1_ne (by omega)]
        · dsimp only
          rw [z_w2_ne (by omega)]
    · rw [if_neg (by rw [iI_eq (by omega) (by omega) (by omega) (by omega)]; exact q2), zq_8_65, if_neg q2]
      refine ⟨_, rfl, ⟨p1, ?_, ?_, ?_, bits _ _ ?_, ?_⟩, ?_⟩
      · dsimp only
        rw [z_w1_r, if_neg (by omega)]; exact p2
      · dsimp only
        rw [z_w1_r, if_neg (by omega)]; exact p3
      · intro x hx j hj
        have hj : j < dD A x := by
          have e9 : dD (mk1 A b r q) x = dD A x := by
            unfold mk1
            rw [dD_u (by decide), dD_u (by decide)]
          rwa [e9] at hj
        have := k1 x hx j hj
        rw [show mk1 A b r q x j = aU A 24 (8 * b + r) (A 24 (8 * b + r) + 1) x j by
          unfold mk1
          simp only [aU_r]
          rw [if_neg (show ¬ (x = 65 ∧ j = 401 * (8 * b + r) + q + 1) by omega)]]
        exact this
      · funext j
        unfold mk1
        rw [aU_r, if_neg (by omega)]
      · intro h8
        exact kept _ _ _ h8
      · intro a ha
        refine ⟨?_, ?_⟩
        · dsimp only
          rw [z_w1_ne (by omega)]
        · dsimp only
          rw [z_w2_ne (by omega)]
end MAR
