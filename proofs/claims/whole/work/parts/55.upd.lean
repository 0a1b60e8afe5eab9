/-! one place changed, on both sides -/
theorem c_n34 : ∀ p, (p = 2 ∨ p = 12) → ∀ x, x < 65 → ci p x = 0 → cx x 0 ≠ 3 ∧ cx x 0 ≠ 4 ∧ cn x ≤ 1 := by
  intro p hp
  rcases hp with rfl | rfl <;> decide +kernel
theorem m_n63 : ∀ x, x < 67 → mi x = 70 → mx x 0 ≠ 63 ∧ mx x 0 ≠ 1 ∧ mn x ≤ 1 := by decide +kernel
section UPD
variable {p : Nat} {A : aS} {S : z_St} {x j : Nat} {v : Int}
theorem CI.wg (h : CI p A S) (hw : wf A) (hx : x < 65) (hj : j < cn x) (h8 : x ≠ 8) (hext : ∀ y, y < 65 → ∀ k, k < dD (aU A x j v) y → k < dD A y ∨ z_w1 S.1 (ci p x) (cx x j) (iI (ce x v)) (ci p y) (cx y k) = iI (ce y (aU A x j v y k))) : CI p (aU A x j v) (z_w1 S.1 (ci p x) (cx x j) (iI (ce x v)), S.2) := by
  obtain ⟨h1, h2, h3, h4, h5, h6⟩ := h
  have hn : ∀ k, (k = 3 ∨ k = 4) → z_w1 S.1 (ci p x) (cx x j) (iI (ce x v)) 0 k = S.1 0 k := by
    intro k hk
    rw [z_w1_r, if_neg]
    rintro ⟨e1, e2⟩
    obtain ⟨g1, g2, g3⟩ := c_n34 p h1 x hx e1.symm
    have hj0 : j = 0 := by omega
    subst hj0
    omega
  refine ⟨h1, by rw [← h2]; exact hn 3 (Or.inl rfl), by rw [← h3]; exact hn 4 (Or.inr rfl), (h4.w h1 (fun x hx => cD_le hw x hx) hx hj).d hext, ?_, ?_⟩
  · intro b r hb hr q hq
    have e : aU A x j v 65 (401 * (8 * b + r) + q + 1) = A 65 (401 * (8 * b + r) + q + 1) := by rw [aU_r, if_neg (by omega)]
    rw [e]
    exact h5 b r hb hr q hq
  · intro ha b r hb hr q hq
    have e8 : aU A x j v 8 0 = A 8 0 := by rw [aU_r, if_neg (by omega)]
    rw [e8] at ha
    have e : kA (aU A x j v) 65 (401 * (8 * b + r) + q + 1) = kA A 65 (401 * (8 * b + r) + q + 1) := by
      show aU A x j v 66 _ = A 66 _
      rw [aU_r, if_neg (by omega)]
    rw [e]
    exact h6 ha b r hb hr q hq
theorem CI.w (h : CI p A S) (hw : wf A) (hx : x < 65) (hj : j < cn x) (h8 : x ≠ 8) (hd : ∀ y, dD (aU A x j v) y = dD A y) : CI p (aU A x j v) (z_w1 S.1 (ci p x) (cx x j) (iI (ce x v)), S.2) :=
  h.wg hw hx hj h8 (fun y _ k hk => Or.inl (by rwa [hd] at hk))
theorem MI.wg (h : MI A S) (hw : wf A) (hx : x < 67) (hj : j < mn x) (h9 : x ≠ 9) (hext : ∀ y, y < 67 → ∀ k, k < mD (aU A x j v) y → k < mD A y ∨ z_w1 S.1 (mi x) (mx x j) (iI v) (mi y) (mx y k) = iI (aU A x j v y k)) : MI (aU A x j v) (z_w1 S.1 (mi x) (mx x j) (iI v), S.2) := by
  refine ⟨(h.1.w (fun x hx => mD_le hw x hx) hx hj).d hext, ?_⟩
  have e9 : aU A x j v 9 0 = A 9 0 := by rw [aU_r, if_neg (by omega)]
  rw [e9]
  show z_w1 S.1 (mi x) (mx x j) (iI v) 70 63 = _ ∨ z_w1 S.1 (mi x) (mx x j) (iI v) 70 63 = _ ∧ _
  rw [z_w1_r, if_neg]
  · exact h.2
  · rintro ⟨e1, e2⟩
    obtain ⟨g1, g2, g3⟩ := m_n63 x hx e1.symm
    have hj0 : j = 0 := by omega
    subst hj0
    omega
theorem MI.w (h : MI A S) (hw : wf A) (hx : x < 67) (hj : j < mn x) (h9 : x ≠ 9) (hd : ∀ y, dD (aU A x j v) y = dD A y) : MI (aU A x j v) (z_w1 S.1 (mi x) (mx x j) (iI v), S.2) :=
  h.wg hw hx hj h9 (fun y _ k hk => Or.inl (by unfold mD at hk ⊢; rwa [hd] at hk))
/-- the components that no domain hangs on -/
theorem dD_u (h : x ≠ 0 ∧ x ≠ 2 ∧ x ≠ 3 ∧ x ≠ 4 ∧ x ≠ 6 ∧ x ≠ 7 ∧ x ≠ 8 ∧ x ≠ 9 ∧ x ≠ 41 ∧ x ≠ 43 ∧ x ≠ 44 ∧ x ≠ 67) (y : Nat) : dD (aU A x j v) y = dD A y := by
  obtain ⟨a0, a2, a3, a4, a6, a7, a8, a9, a41, a43, a44, a67⟩ := h
  unfold dD
  simp only [aU_r, Ne.symm a0, Ne.symm a2, Ne.symm a3, Ne.symm a4, Ne.symm a6, Ne.symm a7, Ne.symm a8, Ne.symm a9, Ne.symm a41, Ne.symm a43, Ne.symm a44, Ne.symm a67, false_and, if_false]
end UPD
/-- status and the scratch of the abstract state don't count -/
theorem wf_39 {A : aS} {j : Nat} {v : Int} (h : wf A) : wf (aU A 39 j v) := h
