/-! room: the model -/
theorem m_fE1 : ∀ x, x < 67 → mi x ≠ 70 ∨ ((mT.getD x (0, 0, 0, 0)).2.2.2 ≤ 1 ∧ ((mT.getD x (0, 0, 0, 0)).2.1 = 2 ∨ (mT.getD x (0, 0, 0, 0)).2.1 = 3 ∨ (6 ≤ (mT.getD x (0, 0, 0, 0)).2.1 ∧ (mT.getD x (0, 0, 0, 0)).2.1 < 18) ∨ (mT.getD x (0, 0, 0, 0)).2.1 = 26 ∨ 28 ≤ (mT.getD x (0, 0, 0, 0)).2.1)) := by decide +kernel
theorem m_fE2 : ∀ x, x < 67 → mi x ≠ 79 ∨ ((mT.getD x (0, 0, 0, 0)).2.1 = 0 ∧ (mT.getD x (0, 0, 0, 0)).2.2.1 = 1 ∧ (mT.getD x (0, 0, 0, 0)).2.2.2 ≤ 700) := by decide +kernel
theorem m_fE3 : ∀ x, x < 67 → (mi x ≠ 72 ∧ mi x ≠ 73) ∨ ((mT.getD x (0, 0, 0, 0)).2.1 = 0 ∧ (mT.getD x (0, 0, 0, 0)).2.2.1 = 1 ∧ (mT.getD x (0, 0, 0, 0)).2.2.2 ≤ 10) := by decide +kernel
theorem m_fE4 : ∀ x, x < 67 → ((mi x < 74 ∨ 78 < mi x) ∧ mi x ≠ 81) ∨ ((mT.getD x (0, 0, 0, 0)).2.1 = 0 ∧ (mT.getD x (0, 0, 0, 0)).2.2.1 = 1 ∧ (mT.getD x (0, 0, 0, 0)).2.2.2 ≤ 8) := by decide +kernel
section ROOMM
variable {A B : aS} {S : z_St} {T : Nat → Int} {n : Nat}
theorem MI.fG {S' : z_St} (h : MI A S) (hw : wf A) (hf : ∀ a i, (a ≠ 70 ∨ (i = 2 ∨ i = 3 ∨ (6 ≤ i ∧ i < 18) ∨ i = 26 ∨ 28 ≤ i)) → (a ≠ 79 ∨ i < 700) → (a = 72 ∨ a = 73 → i < 10) → (74 ≤ a ∧ a ≤ 78 ∨ a = 81 → i < 8) → S'.1 a i = S.1 a i) : MI A S' := by
  refine ⟨h.1.f (fun x hx j hj => ?_), by rw [hf 70 63 (by omega) (by omega) (by omega) (by omega)]; exact h.2⟩
  have hj2 : j < (mT.getD x (0, 0, 0, 0)).2.2.2 := Nat.lt_of_lt_of_le hj (mD_le hw x hx)
  refine hf _ _ ?_ ?_ ?_ ?_
  · rcases m_fE1 x hx with e | e
    · exact Or.inl e
    · right
      have hj0 : j = 0 := by omega
      subst hj0
      unfold mx
      rw [Nat.mul_zero, Nat.add_zero]
      exact e.2
  · rcases m_fE2 x hx with e | ⟨q1, q2, q3⟩
    · exact Or.inl e
    · right
      unfold mx
      rw [q1, q2]
      omega
  · intro z
    rcases m_fE3 x hx with e | ⟨q1, q2, q3⟩
    · omega
    · unfold mx
      rw [q1, q2]
      omega
  · intro z
    rcases m_fE4 x hx with e | ⟨q1, q2, q3⟩
    · omega
    · unfold mx
      rw [q1, q2]
      omega
theorem m_take {s : Nat} {c : List Int} (hn : c.length ≤ 700) (h : OKm T n s c S) (hP : PM B S) (hB : PB B c) (h17 : S.1 70 17 = iI 0) (h26 : S.1 70 26 = iI (-1)) (h80 : ∀ j, j < 5 → S.1 80 j = iI (A 39 j)) (d : Nat) : ∃ S', z_ew (d + 1) 138 [.ref 70] S = some (.inl none, S') ∧ MI (rmA A B c) S' ∧ S'.2 = S.2 ∧ (∀ a i, a < 70 ∨ 116 ≤ a ∨ (a = 70 ∧ i = 1) → S'.1 a i = S.1 a i) := by
  obtain ⟨S0, hS0⟩ : ∃ S0 : z_St, S0 = (z_w1 (z_w1 S.1 70 2 (S.1 70 4)) 70 3 (S.1 70 5), S.2) := ⟨_, rfl⟩
  have f0 : ∀ a i, (a ≠ 70 ∨ (i ≠ 2 ∧ i ≠ 3)) → S0.1 a i = S.1 a i := by
    intro a i hi
    rw [hS0]
    dsimp only
    rw [z_w1_r, if_neg (by omega), z_w1_r, if_neg (by omega)]
  obtain ⟨S1, g1, a1, a2, a3, a4, a5⟩ := t_18 d 10 0 999999 S0 (by omega) (by omega)
  obtain ⟨g1, rfl⟩ : ∃ m, g1 = m + 1 := ⟨g1 - 1, by omega⟩
  obtain ⟨S2, g2, b1, b2, b3, b4, b5⟩ := t_62 d 8 0 g1 S1 (by omega) (by omega)
  obtain ⟨g2, rfl⟩ : ∃ m, g2 = m + 1 := ⟨g2 - 1, by omega⟩
  have h27 : S2.1 70 27 = iI (c.length : Int) := by
    rw [b4 70 27 (by omega), a4 70 27 (by omega), f0 70 27 (by omega)]
    exact h.2.2.2.1
  obtain ⟨S3, g3, c1, c2, c3, c4, c5⟩ := t_166 d c.length hn c.length 0 g2 S2 h27 (by omega) (by omega)
  obtain ⟨g3, rfl⟩ : ∃ m, g3 = m + 1 := ⟨g3 - 1, by omega⟩
  obtain ⟨S4, hS4⟩ : ∃ S4 : z_St, S4 = (z_w1 (z_w1 (z_w1 (z_w1 (z_w1 (z_w1 S3.1 70 28 (nI 0)) 70 29 (nI 0)) 70 44 (nI 0)) 70 57 (nI 0)) 70 63 (-nI 1)) 70 67 (nI 0), S3.2) := ⟨_, rfl⟩
  have f4 : ∀ a i, (a ≠ 70 ∨ (i < 28 ∧ i ≠ 29)) → S4.1 a i = S3.1 a i := by
    intro a i hi
    rw [hS4]
    dsimp only
    rw [z_w1_r, if_neg (by omega), z_w1_r, if_neg (by omega), z_w1_r, if_neg (by omega), z_w1_r, if_neg (by omega), z_w1_r, if_neg (by omega), z_w1_r, if_neg (by omega)]
  obtain ⟨S5, g5, d1, d2, d3, d4, d5⟩ := t_228 d 10 0 g3 S4 (by omega) (by omega)
  obtain ⟨g5, rfl⟩ : ∃ m, g5 = m + 1 := ⟨g5 - 1, by omega⟩
  obtain ⟨S6, g6, e1, e2, e3, e4, e5⟩ := t_249 d 8 0 g5 S5 (by omega) (by omega)
  obtain ⟨g6, rfl⟩ : ∃ m, g6 = m + 1 := ⟨g6 - 1, by omega⟩
  obtain ⟨S7, g7, i1, i2, i3, i4, i5⟩ := t_270 d 80 0 g6 S6 (by omega) (by omega)
  obtain ⟨g7, rfl⟩ : ∃ m, g7 = m + 1 := ⟨g7 - 1, by omega⟩
  obtain ⟨S8, g8, j1, j2, j3, j4, j5⟩ := t_305 d 32080 0 g7 S7 (by omega) (by omega)
  obtain ⟨g8, rfl⟩ : ∃ m, g8 = m + 1 := ⟨g8 - 1, by omega⟩
  obtain ⟨S9, g9, k1, k2, k3, k4, k5⟩ := t_327 d 60 0 g8 S8 (by omega) (by omega)
  obtain ⟨g9, rfl⟩ : ∃ m, g9 = m + 1 := ⟨g9 - 1, by omega⟩
  have p9 : ∀ a i, (a < 83 ∨ 88 < a) → a ≠ 112 → S9.1 a i = S4.1 a i := by
    intro a i q1 q2
    rw [k4 a i (by omega), j4 a i (by omega), i4 a i (by omega), e4 a i (by omega), d4 a i (by omega)]
  have p3 : ∀ a i, (a < 72 ∨ 79 < a) → a ≠ 81 → (a ≠ 70 ∨ (i ≠ 2 ∧ i ≠ 3)) → S3.1 a i = S.1 a i := by
    intro a i q1 q2 q3
    rw [c4 a i (by omega), b4 a i (by omega), a4 a i (by omega), f0 a i q3]
  obtain ⟨r1, r2, r3, r4, r5⟩ := hP
  refine ⟨S9, ?_, ?_, ?_, ?_⟩
  · rw [zx_138, ← hS0, iI_n 0, a1, zq_138_60, iI_n 0, b1, zq_138_164, iI_n 0, c1, zq_138_196, ← hS4, iI_n 0, d1, zq_138_247, iI_n 0, e1, zq_138_268, iI_n 0, i1, zq_138_303, iI_n 0, j1, zq_138_325, iI_n 0, k1, zq_138_346]
  · refine MI_rm ?_ ?_ ?_ ?_ ?_ ?_ ?_ ?_ ?_ ?_ (fun x j x1 x2 hj => ?_) (fun i hi => ?_) ⟨r1.1, r2.1⟩ (fun j hj => ?_) (fun j hj => ?_) (fun j hj => ?_) (fun j hj => ?_) (fun j hj => ?_) (fun j hj => ?_) (fun j hj => ?_) (fun j hj => ?_)
    · rw [p9 70 17 (by omega) (by omega), f4 70 17 (by omega), p3 70 17 (by omega) (by omega) (by omega)]; exact h17
    · rw [p9 70 26 (by omega) (by omega), f4 70 26 (by omega), p3 70 26 (by omega) (by omega) (by omega)]; exact h26
    · rw [p9 70 2 (by omega) (by omega), f4 70 2 (by omega), c4 70 2 (by omega), b4 70 2 (by omega), a4 70 2 (by omega), hS0]
      dsimp only
      rw [z_w1_r, if_neg (by omega), z_w1_r, if_pos ⟨rfl, rfl⟩]
      exact r3
    · rw [p9 70 3 (by omega) (by omega), f4 70 3 (by omega), c4 70 3 (by omega), b4 70 3 (by omega), a4 70 3 (by omega), hS0]
      dsimp only
      rw [z_w1_r, if_pos ⟨rfl, rfl⟩]
      exact r4
    · rw [p9 70 28 (by omega) (by omega), hS4]; simp [z_w1_r]; rfl
    · rw [p9 70 29 (by omega) (by omega), hS4]; simp [z_w1_r]; rfl
    · rw [p9 70 44 (by omega) (by omega), hS4]; simp [z_w1_r]; rfl
    · rw [p9 70 57 (by omega) (by omega), hS4]; simp [z_w1_r]; rfl
    · rw [p9 70 67 (by omega) (by omega), hS4]; simp [z_w1_r]; rfl
    · rw [p9 70 63 (by omega) (by omega), hS4]; simp [z_w1_r]; rfl
    · have hv := r5 x j x1 x2 hj
      have hpd : x < 13 → j < 10 := fun q => by
        unfold pD at hj
        rw [if_pos q] at hj
        omega
      have hpe : 13 ≤ x → j < 8 ∧ (j : Int) < B 3 0 := fun q => by
        unfold pD at hj
        rw [if_neg (by omega)] at hj
        omega
      have hx18 : x = 11 ∨ x = 12 ∨ x = 13 ∨ x = 14 ∨ x = 15 ∨ x = 16 ∨ x = 17 ∨ x = 18 := by omega
      rcases hx18 with rfl | rfl | rfl | rfl | rfl | rfl | rfl | rfl
      · have hv : S.1 72 (10 + j) = _ := hv
        show S9.1 72 j = _
        rw [p9 72 j (by omega) (by omega), f4 72 j (by omega), c4 72 j (by omega), b4 72 j (by omega), (a3 j (by omega) (hpd (by omega))).1, f0 72 _ (by omega), hv]
      · have hv : S.1 73 (10 + j) = _ := hv
        show S9.1 73 j = _
        rw [p9 73 j (by omega) (by omega), f4 73 j (by omega), c4 73 j (by omega), b4 73 j (by omega), (a3 j (by omega) (hpd (by omega))).2, f0 73 _ (by omega), hv]
      · have hv : S.1 74 (8 + j) = _ := hv
        show S9.1 74 j = _
        rw [p9 74 j (by omega) (by omega), f4 74 j (by omega), c4 74 j (by omega), (b3 j (by omega) (hpe (by omega)).1).1, a4 74 _ (by omega), f0 74 _ (by omega), hv]
      · have hv : S.1 75 (8 + j) = _ := hv
        show S9.1 75 j = _
        rw [p9 75 j (by omega) (by omega), f4 75 j (by omega), c4 75 j (by omega), (b3 j (by omega) (hpe (by omega)).1).2.1, a4 75 _ (by omega), f0 75 _ (by omega), hv]
      · have hv : S.1 76 (8 + j) = _ := hv
        show S9.1 76 j = _
        rw [p9 76 j (by omega) (by omega), f4 76 j (by omega), c4 76 j (by omega), (b3 j (by omega) (hpe (by omega)).1).2.2.1, a4 76 _ (by omega), f0 76 _ (by omega), hv]
      · have hv : S.1 81 (8 + j) = _ := hv
        have hb01 := (hB.2.2.2.1 j (hpe (by omega)).2).2.2.2.1
        show S9.1 81 j = _
        rw [p9 81 j (by omega) (by omega), f4 81 j (by omega), c4 81 j (by omega), (b3 j (by omega) (hpe (by omega)).1).2.2.2.1, a4 81 _ (by omega), f0 81 _ (by omega), hv]
        rcases hb01 with e | e
        · rw [e]; decide +kernel
        · rw [e]; decide +kernel
      · have hv : S.1 77 (8 + j) = _ := hv
        show S9.1 77 j = _
        rw [p9 77 j (by omega) (by omega), f4 77 j (by omega), c4 77 j (by omega), (b3 j (by omega) (hpe (by omega)).1).2.2.2.2.1, a4 77 _ (by omega), f0 77 _ (by omega), hv]
      · have hv : S.1 78 (8 + j) = _ := hv
        show S9.1 78 j = _
        rw [p9 78 j (by omega) (by omega), f4 78 j (by omega), c4 78 j (by omega), (b3 j (by omega) (hpe (by omega)).1).2.2.2.2.2, a4 78 _ (by omega), f0 78 _ (by omega), hv]
    · rw [p9 79 i (by omega) (by omega), f4 79 i (by omega), c3 i (by omega) hi, b4 79 _ (by omega), a4 79 _ (by omega), f0 79 _ (by omega)]
      exact h.2.2.2.2 i hi
    · rw [k4 86 j (by omega), j4 86 j (by omega), i4 86 j (by omega), e4 86 j (by omega)]; exact d3 j (by omega) hj
    · rw [k4 87 j (by omega), j4 87 j (by omega), i4 87 j (by omega)]; exact e3 j (by omega) hj
    · rw [k4 83 j (by omega), j4 83 j (by omega), (i3 j (by omega) hj).1]; rfl
    · rw [k4 84 j (by omega), j4 84 j (by omega), (i3 j (by omega) hj).2.1]; rfl
    · rw [k4 85 j (by omega), j4 85 j (by omega), (i3 j (by omega) hj).2.2]; rfl
    · exact k3 j (by omega) hj
    · rw [p9 80 j (by omega) (by omega), f4 80 j (by omega), p3 80 j (by omega) (by omega) (by omega)]; exact h80 j hj
    · rw [k4 88 j (by omega)]; exact j3 j (by omega) hj
  · rw [k5, j5, i5, e5, d5, hS4]
    show S3.2 = _
    rw [c5, b5, a5, hS0]
  · intro a i hi
    rw [p9 a i (by omega) (by omega), f4 a i (by omega), p3 a i (by omega) (by omega) (by omega)]
end ROOMM
