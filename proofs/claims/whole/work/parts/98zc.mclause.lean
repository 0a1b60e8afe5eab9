/-! the model's clauses -/
def mj (x : Nat) : Nat := if x = 16 then 81 else if 17 ≤ x then x + 60 else x + 61
def mOf (x : Nat) : Nat := if x < 13 then 10 else 8
theorem mj_e {x : Nat} (h1 : 11 ≤ x) (h2 : x ≤ 18) : ((mj x = 72 ↔ x = 11) ∧ (mj x = 73 ↔ x = 12) ∧ (mj x = 74 ↔ x = 13) ∧ (mj x = 75 ↔ x = 14) ∧ (mj x = 76 ↔ x = 15) ∧ (mj x = 81 ↔ x = 16) ∧ (mj x = 77 ↔ x = 17) ∧ (mj x = 78 ↔ x = 18)) ∧ mj x ≠ 70 ∧ mj x ≠ 79 ∧ (x < 13 → mOf x = 10) ∧ (13 ≤ x → mOf x = 8) := by
  have e : (x < 13 → mOf x = 10) ∧ (13 ≤ x → mOf x = 8) := by
    unfold mOf
    split <;> omega
  unfold mj
  split
  · omega
  · split <;> omega
def PM (B : aS) (S : z_St) : Prop := (0 ≤ B 2 0 ∧ B 2 0 ≤ 10) ∧ (0 ≤ B 3 0 ∧ B 3 0 ≤ 8) ∧ S.1 70 4 = iI (B 2 0) ∧ S.1 70 5 = iI (B 3 0) ∧ ∀ x j : Nat, 11 ≤ x → x ≤ 18 → (j : Int) < pD B x → S.1 (mj x) (mOf x + j) = iI (B x j)
def frE (S S' : z_St) : Prop := S'.2 = S.2 ∧ ∀ a i, (a ≠ 70 ∨ (i < 4 ∨ (6 ≤ i ∧ i < 18) ∨ i = 19 ∨ i = 26 ∨ 28 ≤ i)) → (a ≠ 79 ∨ i < 700) → (a = 72 ∨ a = 73 → i < 10) → (74 ≤ a ∧ a ≤ 78 ∨ a = 81 → i < 8) → S'.1 a i = S.1 a i
theorem frE.tr {S S1 S2 : z_St} (h : frE S S1) (h2 : frE S1 S2) : frE S S2 := ⟨h2.1.trans h.1, fun a i a1 a2 a3 a4 => (h2.2 a i a1 a2 a3 a4).trans (h.2 a i a1 a2 a3 a4)⟩
theorem frM.E {S S' : z_St} (h : frM S S') : frE S S' := ⟨h.1, fun a i a1 a2 a3 a4 => h.2 a i (by omega) (by omega)⟩
theorem frM.w {a0 k : Nat} {v : Int32} {S S' : z_St} (h : frM S S') : frM (z_w1 S.1 a0 k v, S.2) (z_w1 S'.1 a0 k v, S'.2) := ⟨h.1, fun a i a1 a2 => by
  dsimp only
  rw [z_w1_r, z_w1_r, h.2 a i a1 a2]⟩
theorem PM.m {B : aS} {S S' : z_St} (h : PM B S) (hf : frM S S') : PM B S' := by
  obtain ⟨p1, p2, p3, p4, p5⟩ := h
  refine ⟨p1, p2, (hf.2 70 4 (by omega) (by omega)).trans p3, (hf.2 70 5 (by omega) (by omega)).trans p4, fun x j x1 x2 hj => ?_⟩
  obtain ⟨-, m1, m2, -, -⟩ := mj_e x1 x2
  exact (hf.2 (mj x) (mOf x + j) (by omega) (by omega)).trans (p5 x j x1 x2 hj)
section MC
variable {S : z_St} {T : Nat → Int} {n : Nat}
theorem RM.w {r : pR} (h : RM T n r S) {a0 k : Nat} {v : Int32} (ha : (72 ≤ a0 ∧ a0 ≤ 78) ∨ a0 = 81 ∨ (a0 = 70 ∧ k < 18)) : RM T n r (z_w1 S.1 a0 k v, S.2) := h.f (fun a i hi => by
  dsimp only
  rw [z_w1_r, if_neg (by omega)])
theorem m_135e (r0 : pR) {r : pR} (h : RM T n r S) {k : Nat} (hk : k < 10) (h4 : S.1 70 4 = iI (k : Int)) (t0 : Int32) (d1 : Option Value) (D fu : Nat) : z_R135 D (fu + 1) 75 0 [some (.ref 70), d1] [.int t0, .int (iI ((10 + k : Nat) : Int)), .ref 73] S = some (.inl none, (z_w1 (z_w1 S.1 73 (10 + k) t0) 70 4 (iI ((k + 1 : Nat) : Int)), S.2)) := by
  rw [zq_135_75, ixN (show 10 + k < 20 by omega) (by decide), cond_true, tN (by omega), h4, iI_n 1, iI_add, show (k : Int) + ((1 : Nat) : Int) = ((k + 1 : Nat) : Int) by omega]
theorem PM.bk {k : Nat} {B : aS} {S' : z_St} {s : Nat} (h : PM B S) (hk : B 2 0 = (k : Int)) (h10 : k < 10) {x3 t0 : Int32} (e3 : x3 = iI (nb T n (nx T n s))) (e0 : t0 = iI (ovI T n 2 (nx T n (nx T n s)))) (hf : frM (z_w1 (z_w1 (z_w1 S.1 72 (10 + k) x3) 73 (10 + k) t0) 70 4 (iI ((k + 1 : Nat) : Int)), S.2) S') : PM (bkB T n B s) S' := by
  obtain ⟨p1, p2, p3, p4, p5⟩ := h
  have hkn : (B 2 0).toNat = k := by omega
  have g2 : bkB T n B s 2 0 = (k : Int) + 1 := by
    unfold bkB
    rw [aU_r, if_pos ⟨rfl, rfl⟩, hk]
  have g3 : bkB T n B s 3 0 = B 3 0 := by
    unfold bkB
    rw [aU_r, if_neg (by omega), aU_r, if_neg (by omega), aU_r, if_neg (by omega)]
  have fr := hf.2
  refine ⟨by rw [g2]; omega, by rw [g3]; exact p2, ?_, ?_, ?_⟩
  · rw [fr 70 4 (by omega) (by omega), g2]
    dsimp only
    rw [z_w1_r, if_pos ⟨rfl, rfl⟩]
    rfl
  · rw [fr 70 5 (by omega) (by omega), g3]
    dsimp only
    rw [z_w1_r, if_neg (by omega), z_w1_r, if_neg (by omega), z_w1_r, if_neg (by omega), p4]
  · intro x j x1 x2 hj
    obtain ⟨⟨m1, m2, m3, m4, m5, m6, m7, m8⟩, n1, n2, n3, n4⟩ := mj_e x1 x2
    rw [fr (mj x) (mOf x + j) (by omega) (by omega)]
    dsimp only
    unfold bkB
    rw [hkn, aU_r, if_neg (by omega), aU_r, aU_r, z_w1_r, z_w1_r, z_w1_r, if_neg (show ¬ (mj x = 70 ∧ mOf x + j = 4) by omega)]
    by_cases c12 : x = 12 ∧ j = k
    · rw [if_pos (by omega), if_pos c12, e0]
    · rw [if_neg (show ¬ (mj x = 73 ∧ mOf x + j = 10 + k) by omega), if_neg c12]
      by_cases c11 : x = 11 ∧ j = k
      · rw [if_pos (by omega), if_pos c11, e3]
      · rw [if_neg (show ¬ (mj x = 72 ∧ mOf x + j = 10 + k) by omega), if_neg c11]
        refine p5 x j x1 x2 ?_
        unfold pD at hj ⊢
        rw [g2, g3] at hj
        by_cases c13 : x < 13
        · rw [if_pos c13] at hj ⊢
          omega
        · rw [if_neg c13] at hj ⊢
          exact hj
theorem m_bookC (hn : n ≤ 700) {B : aS} {s : Nat} {c : List Int} (hP : PM B S) (hs : s < n) (hc : c.length ≤ s) (h : OKm T n s c S) (d : Nat) : ∃ S', z_ew (d + 4) 135 [.ref 70] S = some (.inl none, S') ∧ RM T n (if B 2 0 = 10 then .inr (2, s) else rBk T n s c) S' ∧ frE S S' ∧ (∀ y, B 2 0 ≠ 10 → rBk T n s c = .inl y → PM (bkB T n B s) S') := by
  obtain ⟨k, hk⟩ : ∃ k : Nat, B 2 0 = (k : Int) := ⟨(B 2 0).toNat, by have := hP.1; omega⟩
  have hk10 : k ≤ 10 := by have := hP.1; omega
  have hR : RM T n (.inl (s, c)) S := ⟨by show s ≤ n; omega, hc, h⟩
  have h0 : S.1 70 4 = iI (k : Int) := by rw [hP.2.2.1, hk]
  rw [zx_135, h0, iI_n 10]
  by_cases h10 : k < 10
  · rw [if_neg (by rw [iI_eq (by omega) (by omega) (by omega) (by omega)]; omega), if_neg (show ¬ B 2 0 = 10 by omega), zq_135_14, if_pos (show S.1 70 24 = 0 from h.2.2.1)]
    have hx := nx_r (T := T) hs
    obtain ⟨S1, b1, b2, b3⟩ := m_nx hn (by omega) h (d + 1)
    have R1 : RM T n (.inl (nx T n s, c)) S1 := ⟨hx.2, by show c.length ≤ nx T n s; omega, b2⟩
    obtain ⟨x3, S2, e1, e2, e3, e4⟩ := m_tn hn (lo := 1) (hi := 400) (by omega) (by omega) (by omega) R1 d
    have e2 : RM T n (pNm T n 1 400 (nx T n s) c) S2 := e2
    have R3 := e2.w (a0 := 72) (k := 10 + k) (v := x3) (by omega)
    have f3 : frM (z_w1 S.1 72 (10 + k) x3, S.2) (z_w1 S2.1 72 (10 + k) x3, S2.2) := (b3.tr e3).w
    have h14 : S1.1 70 4 = iI (k : Int) := (b3.2 70 4 (by omega) (by omega)).trans h0
    obtain ⟨x5, S4, i1, i2⟩ := m_opt hn (i := 2) (by omega) (lo := 1) (hh := 400) (by omega) (by omega) (by omega) R3 d
    have start : z_R135 (d + 3) 999998 22 0 [some (.ref 70), none] [] S = (if x5 = 0 then (z_R135 (d + 3) 999997 74 0 [some (.ref 70), some (.int (iI ((10 + k : Nat) : Int)))] [.int (iI ((10 + k : Nat) : Int)), .ref 73] S4) else (z_cli (z_ew (d + 3) 127 [.ref 70, .int (iI 1), .int (iI 400)] S4) (fun x7 S6 => z_R135 (d + 3) 999997 75 0 [some (.ref 70), some (.int (iI ((10 + k : Nat) : Int)))] [.int x7, .int (iI ((10 + k : Nat) : Int)), .ref 73] S6) (z_hnd []))) := by
      rw [zq_135_22, b1, clv_v, show nI 1 = iI 1 from rfl, show nI 400 = iI 400 from rfl, e1, cli_i, h14, iI_n 10, iI_add, show ((10 : Nat) : Int) + (k : Int) = ((10 + k : Nat) : Int) by omega, ixN (show 10 + k < 20 by omega) (by decide), cond_true, tN (by omega), show (1202 : Nat) = 1200 + 2 from rfl, i1, cli_i]
    rw [start]
    have fin : ∀ (t0 : Int32) (d1 : Option Value) (S5 : z_St), RM T n (rBk T n s c) S5 → frM (z_w1 S2.1 72 (10 + k) x3, S2.2) S5 → (∀ y, rBk T n s c = .inl y → ∃ y1, pNm T n 1 400 (nx T n s) c = .inl y1 ∧ t0 = iI (ovI T n 2 y1.1)) → ∃ S', (∀ fu, z_R135 (d + 3) (fu + 1) 75 0 [some (.ref 70), d1] [.int t0, .int (iI ((10 + k : Nat) : Int)), .ref 73] S5 = some (.inl none, S')) ∧ RM T n (rBk T n s c) S' ∧ frE S S' ∧ (∀ y, B 2 0 ≠ 10 → rBk T n s c = .inl y → PM (bkB T n B s) S') := by
      intro t0 d1 S5 r5 g5 ht
      have h54 : S5.1 70 4 = iI (k : Int) := by
        rw [(f3.tr g5).2 70 4 (by omega) (by omega)]
        dsimp only
        rw [z_w1_r, if_neg (by omega), h0]
      have fF := ((f3.tr g5).w (a0 := 73) (k := 10 + k) (v := t0)).w (a0 := 70) (k := 4) (v := iI ((k + 1 : Nat) : Int))
      refine ⟨_, fun fu => m_135e (rBk T n s c) r5 h10 h54 t0 d1 (d + 3) fu, (r5.w (a0 := 73) (by omega)).w (a0 := 70) (by omega), ⟨fF.1, fun a i a1 a2 a3 a4 => ?_⟩, fun y _ hy => ?_⟩
      · rw [fF.2 a i (by omega) (by omega)]
        dsimp only
        rw [z_w1_r, if_neg (by omega), z_w1_r, if_neg (by omega), z_w1_r, if_neg (by omega)]
      · obtain ⟨y1, hy1, ht1⟩ := ht y hy
        obtain ⟨z1, z2, -, -, -⟩ := pNm_i (s' := y1.1) (c' := y1.2) hy1
        exact PM.bk (T := T) (n := n) (s := s) hP hk h10 (e4 _ rfl _ hy1) (by rw [ht1, z1]) fF
    rcases i2 with ⟨x0, i2, i3, i4⟩ | ⟨x0, x7, S6, i5, i2, i3, i4⟩
    · obtain ⟨S', j1, j2, j3, j4⟩ := fin (nI 0) none S4 i2 i3 (fun y hy => by
        unfold rBk at hy
        obtain ⟨s1, c1, y1, y2⟩ := pB_inl (s' := y.1) (c' := y.2) hy
        exact ⟨_, y1, by rw [i4 _ y1]; rfl⟩)
      rw [if_pos x0, zq_135_74]
      exact ⟨S', j1 999995, j2, j3, j4⟩
    · obtain ⟨S', j1, j2, j3, j4⟩ := fin x7 (some (.int (iI ((10 + k : Nat) : Int)))) S6 i2 i3 (fun y hy => by
        unfold rBk at hy
        obtain ⟨s1, c1, y1, y2⟩ := pB_inl (s' := y.1) (c' := y.2) hy
        exact ⟨_, y1, i4 _ y1 _ y2⟩)
      rw [if_neg x0, i5, cli_i]
      exact ⟨S', j1 999996, j2, j3, j4⟩
  · obtain ⟨S1, b1, b2, b3⟩ := mp_wr (k := 2) (by omega) (show s ≤ n by omega) h (d + 2)
    rw [if_pos (by rw [show k = 10 by omega]), if_pos (show B 2 0 = 10 by omega), show nI 2 = iI 2 from rfl, b1, clv_v, zq_135_14, if_neg b2.ne]
    exact ⟨S1, rfl, b2, b3.E, fun y hy => by omega⟩
end MC
