/-! wish -/
section WIS
variable {p : Nat} {A : aS} {S : z_St}
theorem dD_7 {v : Int} (y : Nat) : dD (aU A 7 0 v) y = if y = 36 ∨ y = 37 then v.toNat else dD A y := by
  by_cases h : y = 36 ∨ y = 37
  · rw [if_pos h]
    rcases h with rfl | rfl <;> rfl
  · rw [if_neg h]
    by_cases h1 : y < 36
    · unfold dD; simp [aU_r, h1]
    · have h2 : ¬ y < 38 := by omega
      unfold dD; simp [aU_r, h1, h2]
theorem mD_7 {v : Int} (y : Nat) : mD (aU A 7 0 v) y = if y = 36 ∨ y = 37 then v.toNat else mD A y := by
  unfold mD
  rw [dD_7]
  by_cases h : y = 36 ∨ y = 37
  · rw [if_pos h, if_pos h, if_neg (by omega)]
  · rw [if_neg h, if_neg h]
theorem wf_36 {n : Nat} {v : Int} (h : wf A) (hn : A 7 0 = n) : wf (aU A 36 n v) := by
  obtain ⟨g1, ⟨a1, a2, a3, a4, a5, a6, a7, a8, a9, a10, a11, a12, a13, a14⟩, g3⟩ := h
  refine ⟨g1, ⟨a1, a2, a3, a4, a5, a6, a7, a8, a9, a10, a11, a12, fun i hi => ?_, a14⟩, g3⟩
  have hi : (i : Int) < A 7 0 := hi
  show (1 ≤ aU A 36 n v 36 i ∧ aU A 36 n v 36 i ≤ 99) ∧ _
  rw [aU_r, if_neg (by omega)]
  exact a13 i hi
theorem wf_37 {n : Nat} {v : Int} (h : wf A) (hn : A 7 0 = n) : wf (aU A 37 n v) := by
  obtain ⟨g1, ⟨a1, a2, a3, a4, a5, a6, a7, a8, a9, a10, a11, a12, a13, a14⟩, g3⟩ := h
  refine ⟨g1, ⟨a1, a2, a3, a4, a5, a6, a7, a8, a9, a10, a11, a12, fun i hi => ?_, a14⟩, g3⟩
  have hi : (i : Int) < A 7 0 := hi
  have e : aU A 37 n v 37 i = A 37 i := by rw [aU_r, if_neg (by omega)]
  show (1 ≤ A 36 i ∧ A 36 i ≤ 99) ∧ 0 ≤ aU A 37 n v 37 i ∧ aU A 37 n v 37 i ≤ 999
  rw [e]
  exact a13 i hi
theorem wf_7 {n : Nat} (h : wf A) (hn : A 7 0 = n) (h7 : n < 7) (h1 : 1 ≤ A 36 n ∧ A 36 n ≤ 99) (h2 : 0 ≤ A 37 n ∧ A 37 n ≤ 999) : wf (aU A 7 0 ((n + 1 : Nat) : Int)) := by
  obtain ⟨g1, ⟨a1, a2, a3, a4, a5, a6, a7, a8, a9, a10, a11, a12, a13, a14⟩, g3⟩ := h
  refine ⟨g1, ⟨a1, a2, a3, ?_, a5, a6, a7, a8, a9, a10, a11, a12, fun i hi => ?_, a14⟩, g3⟩
  · show 0 ≤ ((n + 1 : Nat) : Int) ∧ ((n + 1 : Nat) : Int) ≤ 7
    omega
  · have hi : (i : Int) < ((n + 1 : Nat) : Int) := hi
    show (1 ≤ A 36 i ∧ A 36 i ≤ 99) ∧ 0 ≤ A 37 i ∧ A 37 i ≤ 999
    by_cases q : i = n
    · subst q; exact ⟨h1, h2⟩
    · exact a13 i (by omega)
theorem c_wish (h : CI p A S) (hw : wf A) {n : Nat} (hn : A 7 0 = n) (h7 : n < 7) (u r : Int) : CI p (aU (aU (aU A 36 n u) 37 n r) 7 0 ((n + 1 : Nat) : Int)) (z_w1 (z_w1 (z_w1 S.1 34 n (iI u)) 35 n (iI r)) 24 12 (iI ((n + 1 : Nat) : Int)), S.2) := by
  have e1 := h.w (x := 36) (j := n) (v := u) hw (by decide) (show n < 7 from h7) (by decide) (dD_u (by decide))
  have x1 : cx 36 n = n := by show 0 + 1 * n = _; omega
  rw [x1] at e1
  have w1 := wf_36 (v := u) hw hn
  have e2 := e1.w (x := 37) (j := n) (v := r) w1 (by decide) (show n < 7 from h7) (by decide) (dD_u (by decide))
  have x2 : cx 37 n = n := by show 0 + 1 * n = _; omega
  rw [x2] at e2
  have w2 := wf_37 (n := n) (v := r) w1 hn
  have e3 := e2.wg (x := 7) (j := 0) (v := ((n + 1 : Nat) : Int)) w2 (by decide) (by decide) (by decide) (fun y hy k hk => by
    rw [dD_7] at hk
    by_cases q : y = 36 ∨ y = 37
    · rw [if_pos q] at hk
      by_cases q2 : k = n
      · subst q2
        refine Or.inr ?_
        rcases q with rfl | rfl
        · rw [x1]
          show z_w1 (z_w1 (z_w1 S.1 34 k (iI u)) 35 k (iI r)) 24 12 (iI ((k + 1 : Nat) : Int)) 34 k = iI (aU (aU (aU A 36 k u) 37 k r) 7 0 ((k + 1 : Nat) : Int) 36 k)
          rw [z_w1_r, if_neg (by omega), z_w1_r, if_neg (by omega), z_w1_r, if_pos ⟨rfl, rfl⟩, aU_r, if_neg (by omega), aU_r, if_neg (by omega), aU_r, if_pos ⟨rfl, rfl⟩]
        · rw [x2]
          show z_w1 (z_w1 (z_w1 S.1 34 k (iI u)) 35 k (iI r)) 24 12 (iI ((k + 1 : Nat) : Int)) 35 k = iI (aU (aU (aU A 36 k u) 37 k r) 7 0 ((k + 1 : Nat) : Int) 37 k)
          rw [z_w1_r, if_neg (by omega), z_w1_r, if_pos ⟨rfl, rfl⟩, aU_r, if_neg (by omega), aU_r, if_pos ⟨rfl, rfl⟩]
      · refine Or.inl ?_
        rcases q with rfl | rfl
        · show k < (A 7 0).toNat
          omega
        · show k < (A 7 0).toNat
          omega
    · rw [if_neg q] at hk
      exact Or.inl hk)
  exact e3
theorem m_wish (h : MI A S) (hw : wf A) {n : Nat} (hn : A 7 0 = n) (h7 : n < 7) (u r : Int) : MI (aU (aU (aU A 36 n u) 37 n r) 7 0 ((n + 1 : Nat) : Int)) (z_w1 (z_w1 (z_w1 S.1 108 n (iI u)) 109 n (iI r)) 70 57 (iI ((n + 1 : Nat) : Int)), S.2) := by
  have e1 := h.w (x := 36) (j := n) (v := u) hw (by decide) (show n < 7 from h7) (by decide) (dD_u (by decide))
  have x1 : mx 36 n = n := by show 0 + 1 * n = _; omega
  rw [x1] at e1
  have w1 := wf_36 (v := u) hw hn
  have e2 := e1.w (x := 37) (j := n) (v := r) w1 (by decide) (show n < 7 from h7) (by decide) (dD_u (by decide))
  have x2 : mx 37 n = n := by show 0 + 1 * n = _; omega
  rw [x2] at e2
  have w2 := wf_37 (n := n) (v := r) w1 hn
  have e3 := e2.wg (x := 7) (j := 0) (v := ((n + 1 : Nat) : Int)) w2 (by decide) (by decide) (by decide) (fun y hy k hk => by
    rw [mD_7] at hk
    by_cases q : y = 36 ∨ y = 37
    · rw [if_pos q] at hk
      by_cases q2 : k = n
      · subst q2
        refine Or.inr ?_
        rcases q with rfl | rfl
        · rw [x1]
          show z_w1 (z_w1 (z_w1 S.1 108 k (iI u)) 109 k (iI r)) 70 57 (iI ((k + 1 : Nat) : Int)) 108 k = iI (aU (aU (aU A 36 k u) 37 k r) 7 0 ((k + 1 : Nat) : Int) 36 k)
          rw [z_w1_r, if_neg (by omega), z_w1_r, if_neg (by omega), z_w1_r, if_pos ⟨rfl, rfl⟩, aU_r, if_neg (by omega), aU_r, if_neg (by omega), aU_r, if_pos ⟨rfl, rfl⟩]
        · rw [x2]
          show z_w1 (z_w1 (z_w1 S.1 108 k (iI u)) 109 k (iI r)) 70 57 (iI ((k + 1 : Nat) : Int)) 109 k = iI (aU (aU (aU A 36 k u) 37 k r) 7 0 ((k + 1 : Nat) : Int) 37 k)
          rw [z_w1_r, if_neg (by omega), z_w1_r, if_pos ⟨rfl, rfl⟩, aU_r, if_neg (by omega), aU_r, if_pos ⟨rfl, rfl⟩]
      · refine Or.inl ?_
        rcases q with rfl | rfl
        · show k < (A 7 0).toNat
          omega
        · show k < (A 7 0).toNat
          omega
    · rw [if_neg q] at hk
      exact Or.inl hk)
  exact e3
/-- a row of the model that nobody reads -/
theorem m_free {a i : Nat} {v : Int32} (h : MI A S) (hw : wf A) (ha : ∀ x, x < 67 → mi x = a → mn x = 0) (ha2 : a ≠ 70) : MI A (z_w1 S.1 a i v, S.2) := by
  refine ⟨h.1.f (fun x hx j hj => ?_), ?_⟩
  · show z_w1 S.1 a i v (mi x) (mx x j) = _
    rw [z_w1_r, if_neg]
    rintro ⟨e1, -⟩
    have := mD_le hw x hx
    have := ha x hx e1
    omega
  · show z_w1 S.1 a i v 70 63 = _ ∨ z_w1 S.1 a i v 70 63 = _ ∧ _
    rw [z_w1_r, if_neg (by omega)]
    exact h.2
theorem c_free {a i : Nat} {v : Int32} (h : CI p A S) (ha : ∀ x, x < 65 → ci p x ≠ a) (ha2 : a ≠ 0) : CI p A (z_w1 S.1 a i v, S.2) := by
  obtain ⟨h1, h2, h3, h4, h5, h6⟩ := h
  refine ⟨h1, ?_, ?_, h4.f (fun x hx j hj => ?_), h5, h6⟩
  · show z_w1 S.1 a i v 0 3 = _
    rw [z_w1_r, if_neg (by omega)]
    exact h2
  · show z_w1 S.1 a i v 0 4 = _
    rw [z_w1_r, if_neg (by omega)]
    exact h3
  · show z_w1 S.1 a i v (ci p x) (cx x j) = _
    rw [z_w1_r, if_neg (fun q => ha x hx q.1)]
theorem mfr : ∀ x, x < 67 → mi x = 107 → mn x = 0 := by decide +kernel
theorem o_wish (a b c : Int32) : OpW 207 173 [.int a, .int b, .int c] := by
  intro S ⟨p, A, hC, hM, hw⟩
  obtain ⟨r, h1, h2, rfl⟩ := iI_of a
  obtain ⟨u, h3, h4, rfl⟩ := iI_of b
  obtain ⟨t, h5, h6, rfl⟩ := iI_of c
  have hr := hw.r
  have h77 : 0 ≤ A 7 0 ∧ A 7 0 ≤ 7 := hw.L.2.2.2.1
  obtain ⟨n, hn⟩ : ∃ n : Nat, A 7 0 = n := ⟨(A 7 0).toNat, by omega⟩
  by_cases q1 : 0 ≤ r ∧ r < A 3 0
  · obtain ⟨r, rfl, k1⟩ := okR.n q1
    by_cases q2 : n < 7 ∧ 1 ≤ u ∧ u ≤ 99 ∧ 0 ≤ t ∧ t ≤ 999
    · have hwf : wf (aU (aU (aU A 36 n u) 37 n t) 7 0 ((n + 1 : Nat) : Int)) := wf_7 (wf_37 (wf_36 hw hn) hn) hn (by omega) (by
          show 1 ≤ aU (aU A 36 n u) 37 n t 36 n ∧ aU (aU A 36 n u) 37 n t 36 n ≤ 99
          rw [aU_r, if_neg (by omega), aU_r, if_pos ⟨rfl, rfl⟩]; omega) (by
          show 0 ≤ aU (aU A 36 n u) 37 n t 37 n ∧ aU (aU A 36 n u) 37 n t 37 n ≤ 999
          rw [aU_r, if_pos ⟨rfl, rfl⟩]; omega)
      refine opW_mk (cm := 92) (o := some ((n + 1 : Nat) : Int)) (p' := p) (A' := aU (aU (aU A 36 n u) 37 n t) 7 0 ((n + 1 : Nat) : Int)) (S1 := (z_w1 (z_w1 (z_w1 S.1 34 n (iI u)) 35 n (iI t)) 24 12 (iI ((n + 1 : Nat) : Int)), S.2)) (fun _ _ e => w_207 e) (fun _ e => w_207x e) hw hM ?_ (((fC_w1 (by decide)).tr (fC_w1 (S := (_, S.2)) (by decide))).tr (fC_w1 (S := (_, S.2)) (by decide))) (c_wish hC hw hn q2.1 u t) hwf (fun S2 h => ?_)
      · rw [zx_92 998, rqR1 hC hw k1 997, clv_v, c_7 hC, hn, iI_0, iI_n, iI_n, iI_n, iI_n, if_neg (by rw [iI_le (by decide) (by decide) (by omega) (by omega)]; omega), if_neg (by rw [iI_lt h3 h4 (by decide) (by decide)]; omega), if_neg (by rw [iI_lt (by decide) (by decide) h3 h4]; omega), if_neg (by rw [iI_lt h5 h6 (by decide) (by decide)]; omega), if_pos (by rw [iI_le h5 h6 (by decide) (by decide)]; omega), zq_92_54, zx_21 997, c_7 hC, hn, ixN q2.1 (by decide), tN (by omega), iI_n, iI_add]
        rfl
      · have h0 : MI A (z_w1 S2.1 70 1 (nI 0), S2.2) := h.code hw
        have h9 : MI A (z_w1 (z_w1 S2.1 70 1 (nI 0)) 107 n (iI r), S2.2) := m_free h0 hw mfr (by decide)
        refine ⟨_, ?_, ((((fM_w1 (by decide) (by decide)).tr (fM_w1 (S := (_, S2.2)) (a := 107) (i := n) (v := iI r) (by decide) (by decide))).tr (fM_w1 (S := (_, S2.2)) (a := 108) (i := n) (v := iI u) (by decide) (by decide))).tr (fM_w1 (S := (_, S2.2)) (a := 109) (i := n) (v := iI t) (by decide) (by decide))).tr (fM_w1 (S := (_, S2.2)) (a := 70) (i := 57) (v := iI ((n + 1 : Nat) : Int)) (by decide) (by decide)), m_wish h9 hw hn q2.1 u t, ?_⟩
        · rw [zx_173 999, isR1 h0 hw k1 997, cli_i, if_neg n10, zq_173_19, m_7 h0, hn, iI_n, iI_n, iI_n, iI_n, iI_n, if_neg (by rw [iI_eq (by omega) (by omega) (by decide) (by decide)]; omega), zy_112 998 u _ _ _ h3 h4 (by decide) (by decide) (by decide) (by decide), cli_i, if_neg (by rw [b01]; omega), zy_112 998 t _ _ _ h5 h6 (by decide) (by decide) (by decide) (by decide), cli_i, if_neg (by rw [b01]; omega), zq_173_61, m_7 (S := (z_w1 S2.1 70 1 (iI ((0 : Nat) : Int)), S2.2)) (h.code hw), hn, ixN q2.1 (by decide), tN (by omega), iI_n, iI_add]
          rfl
        · dsimp only
          rw [z_w1_r, if_neg (by omega), z_w1_r, if_neg (by omega), z_w1_r, if_neg (by omega), z_w1_r, if_neg (by omega), cdz]
          rfl
    · refine opW_mk (cm := 92) (o := some (-1)) (p' := p) (A' := aR A 4) (S1 := (z_w1 S.1 37 4 (S.1 37 4 + nI 1), S.2)) (fun _ _ e => w_207 e) (fun _ e => w_207x e) hw hM ?_ (fC_w1 (by decide)) (cRef hC hw (by decide)) (wfR hw) (fun S2 h => ?_)
      · rw [zx_92 998, rqR1 hC hw k1 997, clv_v, c_7 hC, hn, iI_0, iI_n, iI_n, iI_n, iI_n]
        simp only [zq_92_39, iI_le (show (-2147483648 : Int) ≤ ((7 : Nat) : Int) by decide) (by decide) (show -2147483648 ≤ (n : Int) by omega) (by omega), iI_lt h3 h4 (show (-2147483648 : Int) ≤ ((1 : Nat) : Int) by decide) (by decide), iI_lt (show (-2147483648 : Int) ≤ ((99 : Nat) : Int) by decide) (by decide) h3 h4, iI_lt h5 h6 (show (-2147483648 : Int) ≤ 0 by decide) (by decide), iI_le h5 h6 (show (-2147483648 : Int) ≤ ((999 : Nat) : Int) by decide) (by decide)]
        by_cases g1 : ((7 : Nat) : Int) ≤ n
        · rw [if_pos g1]; rfl
        · rw [if_neg g1]
          by_cases g2 : u < ((1 : Nat) : Int)
          · rw [if_pos g2]; rfl
          · rw [if_neg g2]
            by_cases g3 : ((99 : Nat) : Int) < u
            · rw [if_pos g3]; rfl
            · rw [if_neg g3]
              by_cases g4 : t < 0
              · rw [if_pos g4]; rfl
              · rw [if_neg g4, if_neg (by omega)]; rfl
      · have h0 : MI A (z_w1 S2.1 70 1 (nI 0), S2.2) := h.code hw
        refine ⟨_, ?_, (fM_w1 (by decide) (by decide)).tr (fM_w1 (S := (_, S2.2)) (a := 80) (i := 4) (by decide) (by decide)), mRef h0 hw (by decide), ?_⟩
        rotate_left
        · dsimp only
          rw [z_w1_r, if_neg (by omega), cdz]
          rfl
        rw [zx_173 999, isR1 h0 hw k1 997, cli_i, if_neg n10, zq_173_19, m_7 h0, hn, iI_n, iI_n, iI_n, iI_n, iI_n]
        by_cases g1 : (n : Int) = ((7 : Nat) : Int)
        · rw [if_pos (by rw [g1]), zq_173_49]; rfl
        · rw [if_neg (by rw [iI_eq (by omega) (by omega) (by decide) (by decide)]; exact g1), zy_112 998 u _ _ _ h3 h4 (by decide) (by decide) (by decide) (by decide), cli_i]
          by_cases g2 : 1 ≤ u ∧ u ≤ 99
          · rw [if_neg (by rw [b01]; omega), zy_112 998 t _ _ _ h5 h6 (by decide) (by decide) (by decide) (by decide), cli_i, if_pos (by rw [b01]; omega), zq_173_49]; rfl
          · rw [if_pos (by rw [b01]; omega), zq_173_49]; rfl
  · refine opW_mk (cm := 92) (o := none) (p' := p) (A' := A) (S1 := S) (fun _ _ e => w_207 e) (fun _ e => w_207x e) hw hM ?_ (fC.rf S) hC hw (fun S2 h => mQ_same hw h ?_)
    · rw [zx_92 998, rqR0 hC hw h1 h2 q1 997, clv_x, hnd_0]
      rfl
    · have h0 : MI A (z_w1 S2.1 70 1 (nI 0), S2.2) := h.code hw
      rw [zx_173 999, isR0 h0 hw h1 h2 q1 997, cli_i, if_pos z00, zx_111 998, cli_i, z_w1_w1]
      rfl
end WIS
