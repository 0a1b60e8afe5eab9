/-! a loan is entered -/
section ENT
variable {p : Nat} {A : aS} {S : z_St} {x j : Nat} {v : Int}
def cDo (A : aS) : Prop := ∀ x, x < 65 → dD A x ≤ cn x
def mDo (A : aS) : Prop := ∀ x, x < 67 → mD A x ≤ mn x
theorem cDo_u (h : cDo A) (hx : x ≠ 0 ∧ x ≠ 2 ∧ x ≠ 3 ∧ x ≠ 4 ∧ x ≠ 6 ∧ x ≠ 7 ∧ x ≠ 8 ∧ x ≠ 9 ∧ x ≠ 41 ∧ x ≠ 43 ∧ x ≠ 44 ∧ x ≠ 67) : cDo (aU A x j v) := fun y hy => by rw [dD_u hx]; exact h y hy
theorem mDo_u (h : mDo A) (hx : x ≠ 0 ∧ x ≠ 2 ∧ x ≠ 3 ∧ x ≠ 4 ∧ x ≠ 6 ∧ x ≠ 7 ∧ x ≠ 8 ∧ x ≠ 9 ∧ x ≠ 41 ∧ x ≠ 43 ∧ x ≠ 44 ∧ x ≠ 67) : mDo (aU A x j v) := fun y hy => by
  have := h y hy
  unfold mD at this ⊢
  rw [dD_u hx]; exact this
theorem CI.g2 (h : CI p A S) (hD : cDo A) (hx : x < 65) (hj : j < cn x) (h8 : x ≠ 8) (hext : ∀ y, y < 65 → ∀ k, k < dD (aU A x j v) y → k < dD A y ∨ z_w1 S.1 (ci p x) (cx x j) (iI (ce x v)) (ci p y) (cx y k) = iI (ce y (aU A x j v y k))) : CI p (aU A x j v) (z_w1 S.1 (ci p x) (cx x j) (iI (ce x v)), S.2) := by
  obtain ⟨h1, h2, h3, h4, h5, h6⟩ := h
  have hn : ∀ k, (k = 3 ∨ k = 4) → z_w1 S.1 (ci p x) (cx x j) (iI (ce x v)) 0 k = S.1 0 k := by
    intro k hk
    rw [z_w1_r, if_neg]
    rintro ⟨e1, e2⟩
    obtain ⟨g1, g2, g3⟩ := c_n34 p h1 x hx e1.symm
    have hj0 : j = 0 := by omega
    subst hj0
    omega
  refine ⟨h1, by rw [← h2]; exact hn 3 (Or.inl rfl), by rw [← h3]; exact hn 4 (Or.inr rfl), (h4.w h1 hD hx hj).d hext, ?_, ?_⟩
  · intro b r hb hr q hq
    have e : aU A x j v 65 (401 * (8 * b + r) + q + 1) = A 65 (401 * (8 * b + r) + q + 1) := by rw [aU_r, if_neg (by omega)]
    rw [e]
    exact h5 b r hb hr q hq
  · intro ha b r hb hr q hq
    have e8 : aU A x j v 8 0 = A 8 0 := by rw [aU_r, if_neg (by omega)]
    rw [e8] at ha
    have e : kA (aU A x j v) 65 (401 * (8 * b + r) + q + 1) = kA A 65 (401 * (8 * b + r) + q + 1) := by
      show aU A x j v 66 _ = A 66 _
      rw [aU_r, if_neg (by omega)]
    rw [e]
    exact h6 ha b r hb hr q hq
theorem CI.w2 (h : CI p A S) (hD : cDo A) (hx : x < 65) (hj : j < cn x) (hu : x ≠ 0 ∧ x ≠ 2 ∧ x ≠ 3 ∧ x ≠ 4 ∧ x ≠ 6 ∧ x ≠ 7 ∧ x ≠ 8 ∧ x ≠ 9 ∧ x ≠ 41 ∧ x ≠ 43 ∧ x ≠ 44 ∧ x ≠ 67) {a i : Nat} (ha : ci p x = a) (hi : cx x j = i) (he : ce x v = v) : CI p (aU A x j v) (z_w1 S.1 a i (iI v), S.2) := by
  have e := h.g2 hD hx hj hu.2.2.2.2.2.2.1 (v := v) (fun y _ k hk => Or.inl (by rwa [dD_u hu] at hk))
  rw [ha, hi, he] at e
  exact e
theorem MI.g2 (h : MI A S) (hD : mDo A) (hx : x < 67) (hj : j < mn x) (h9 : x ≠ 9) (hext : ∀ y, y < 67 → ∀ k, k < mD (aU A x j v) y → k < mD A y ∨ z_w1 S.1 (mi x) (mx x j) (iI v) (mi y) (mx y k) = iI (aU A x j v y k)) : MI (aU A x j v) (z_w1 S.1 (mi x) (mx x j) (iI v), S.2) := by
  refine ⟨(h.1.w hD hx hj).d hext, ?_⟩
  have e9 : aU A x j v 9 0 = A 9 0 := by rw [aU_r, if_neg (by omega)]
  rw [e9]
  show z_w1 S.1 (mi x) (mx x j) (iI v) 70 63 = _ ∨ z_w1 S.1 (mi x) (mx x j) (iI v) 70 63 = _ ∧ _
  rw [z_w1_r, if_neg]
  · exact h.2
  · rintro ⟨e1, e2⟩
    obtain ⟨g1, g2, g3⟩ := m_n63 x hx e1.symm
    have hj0 : j = 0 := by omega
    subst hj0
    omega
theorem MI.w2 (h : MI A S) (hD : mDo A) (hx : x < 67) (hj : j < mn x) (hu : x ≠ 0 ∧ x ≠ 2 ∧ x ≠ 3 ∧ x ≠ 4 ∧ x ≠ 6 ∧ x ≠ 7 ∧ x ≠ 8 ∧ x ≠ 9 ∧ x ≠ 41 ∧ x ≠ 43 ∧ x ≠ 44 ∧ x ≠ 67) {a i : Nat} (ha : mi x = a) (hi : mx x j = i) : MI (aU A x j v) (z_w1 S.1 a i (iI v), S.2) := by
  have e := h.g2 hD hx hj hu.2.2.2.2.2.2.2.1 (v := v) (fun y _ k hk => Or.inl (by unfold mD at hk ⊢; rwa [dD_u hu] at hk))
  rw [ha, hi] at e
  exact e
def g4 (y : Nat) : Bool := decide (26 ≤ y ∧ y < 32)
theorem dD_4 (y : Nat) : dD (aU A 4 0 v) y = if g4 y = true then v.toNat else dD A y := by
  unfold g4
  by_cases h : 26 ≤ y ∧ y < 32
  · rw [if_pos (decide_eq_true h)]
    have h2 : y = 26 ∨ y = 27 ∨ y = 28 ∨ y = 29 ∨ y = 30 ∨ y = 31 := by omega
    rcases h2 with rfl | rfl | rfl | rfl | rfl | rfl <;> rfl
  · rw [if_neg (by simpa using h)]
    by_cases h1 : y < 26
    · unfold dD; simp [aU_r, h1]
    · have h2 : ¬ y < 32 := by omega
      unfold dD; simp [aU_r, h1, h2]
theorem mD_4 (y : Nat) : mD (aU A 4 0 v) y = if g4 y = true then v.toNat else mD A y := by
  unfold mD
  rw [dD_4]
  by_cases h : g4 y = true
  · have h3 : 26 ≤ y ∧ y < 32 := by simpa [g4] using h
    rw [if_pos h, if_pos h, if_neg (by omega)]
  · rw [if_neg h, if_neg h]
/-- the count of loans goes up -/
theorem CI.i4 {n : Nat} (h : CI p A S) (hD : cDo A) (hn : A 4 0 = n) (h7 : n < 200) (hG : ∀ y, 26 ≤ y → y < 32 → S.1 25 (y - 26 + 6 * n) = iI (A y n)) : CI p (aU A 4 0 ((n + 1 : Nat) : Int)) (z_w1 S.1 24 0 (iI ((n + 1 : Nat) : Int)), S.2) := by
  have e := h.g2 hD (x := 4) (j := 0) (v := ((n + 1 : Nat) : Int)) (by decide) (by decide) (by decide) (fun y hy k hk => by
    rw [dD_4] at hk
    by_cases q : g4 y = true
    · rw [if_pos q] at hk
      have h3 : 26 ≤ y ∧ y < 32 := by simpa [g4] using q
      have e9 : dD A y = n := by
        have h2 : y = 26 ∨ y = 27 ∨ y = 28 ∨ y = 29 ∨ y = 30 ∨ y = 31 := by omega
        have e8 : (A 4 0).toNat = n := by omega
        rcases h2 with rfl | rfl | rfl | rfl | rfl | rfl <;> exact e8
      by_cases q2 : k = n
      · subst q2
        refine Or.inr ?_
        have hci : ci p y = 25 ∧ cx y k = y - 26 + 6 * k ∧ ce y (A y k) = A y k := by
          have h2 : y = 26 ∨ y = 27 ∨ y = 28 ∨ y = 29 ∨ y = 30 ∨ y = 31 := by omega
          rcases h2 with rfl | rfl | rfl | rfl | rfl | rfl <;> exact ⟨rfl, rfl, rfl⟩
        have hc4 : ci p 4 = 24 := rfl
        rw [aU_r, if_neg (by omega), hci.1, hci.2.1, hci.2.2, hc4, z_w1_r, if_neg (by omega)]
        exact hG y h3.1 h3.2
      · exact Or.inl (by omega)
    · rw [if_neg q] at hk
      exact Or.inl hk)
  exact e
theorem MI.i4 {n : Nat} (h : MI A S) (hD : mDo A) (hn : A 4 0 = n) (h7 : n < 200) (hG : ∀ y, 26 ≤ y → y < 32 → S.1 (y + 63) n = iI (A y n)) : MI (aU A 4 0 ((n + 1 : Nat) : Int)) (z_w1 S.1 70 28 (iI ((n + 1 : Nat) : Int)), S.2) := by
  have e := h.g2 hD (x := 4) (j := 0) (v := ((n + 1 : Nat) : Int)) (by decide) (by decide) (by decide) (fun y hy k hk => by
    rw [mD_4] at hk
    by_cases q : g4 y = true
    · rw [if_pos q] at hk
      have h3 : 26 ≤ y ∧ y < 32 := by simpa [g4] using q
      have e9 : mD A y = n := by
        have h2 : y = 26 ∨ y = 27 ∨ y = 28 ∨ y = 29 ∨ y = 30 ∨ y = 31 := by omega
        have e8 : (A 4 0).toNat = n := by omega
        rcases h2 with rfl | rfl | rfl | rfl | rfl | rfl <;> exact e8
      by_cases q2 : k = n
      · subst q2
        refine Or.inr ?_
        have hci : mi y = y + 63 ∧ mx y k = k := by
          have h2 : y = 26 ∨ y = 27 ∨ y = 28 ∨ y = 29 ∨ y = 30 ∨ y = 31 := by omega
          rcases h2 with rfl | rfl | rfl | rfl | rfl | rfl <;> exact ⟨rfl, by show 0 + 1 * k = k; omega⟩
        have hc4 : mi 4 = 70 := rfl
        rw [aU_r, if_neg (by omega), hci.1, hci.2, hc4, z_w1_r, if_neg (by omega)]
        exact hG y h3.1 h3.2
      · exact Or.inl (by omega)
    · rw [if_neg q] at hk
      exact Or.inl hk)
  exact e
/-- a loan's row, slip and ends -/
def aN (A : aS) (c n r b : Nat) (f u g v m : Int) : aS := aU (aU (aU (aU (aU (aU (aU (aU (aU (aU (aU (aU A 22 c v) 23 c v) 26 n (r : Int)) 27 n (b : Int)) 28 n f) 29 n u) 30 n g) 31 n m) 4 0 ((n + 1 : Nat) : Int)) 5 0 f) 20 b (f + u)) 21 r (f + u)
theorem aN_M (A : aS) (c n r b : Nat) (f u g v m : Int) : aN A c n r b f u g v m = aU (aU (aU (aU (aU (aU (aU (aU (aU (aU (aU (aU A 26 n (r : Int)) 27 n (b : Int)) 28 n f) 29 n u) 30 n g) 31 n m) 4 0 ((n + 1 : Nat) : Int)) 22 c v) 23 c v) 20 b (f + u)) 21 r (f + u)) 5 0 f := by
  funext y k
  unfold aN
  simp only [aU_r]
  by_cases h22 : y = 22
  · subst h22; simp
  by_cases h23 : y = 23
  · subst h23; simp
  by_cases h26 : y = 26
  · subst h26; simp
  by_cases h27 : y = 27
  · subst h27; simp
  by_cases h28 : y = 28
  · subst h28; simp
  by_cases h29 : y = 29
  · subst h29; simp
  by_cases h30 : y = 30
  · subst h30; simp
  by_cases h31 : y = 31
  · subst h31; simp
  by_cases h4 : y = 4
  · subst h4; simp
  by_cases h5 : y = 5
  · subst h5; simp
  by_cases h20 : y = 20
  · subst h20; simp
  by_cases h21 : y = 21
  · subst h21; simp
  simp [h22, h23, h26, h27, h28, h29, h30, h31, h4, h5, h20, h21]
theorem wf_aN (hw : wf A) {n r b : Nat} {f u g v m : Int} (hb : (b : Int) < A 2 0) (hr : (r : Int) < A 3 0) (hn : A 4 0 = n) (h7 : n < 200) (hf : 0 ≤ f) (hu : 1 ≤ u) (hu2 : u ≤ 24) (hfu : f + u ≤ 8760) (hv : 1 ≤ v) (hv2 : v ≤ 401) : wf (aN A (8 * b + r) n r b f u g v m) := by
  have hb2 := hw.b
  have hr2 := hw.r
  obtain ⟨g1, ⟨a1, a2, a3, a4, a5, a6, a7, a8, a9, a10, a11⟩, g3⟩ := hw
  have hL : LW A (aN A (8 * b + r) n r b f u g v m) := by
    refine ⟨?_, ?_, a3, a4, fun j hj => ?_, fun j hj => ?_, fun j hj => ?_, fun b' r' hb' hr' ho => ⟨?_, (a8 b' r' hb' hr' ho).2⟩, a9, fun i hi => ?_, a11⟩
    · show 0 ≤ ((n + 1 : Nat) : Int) ∧ ((n + 1 : Nat) : Int) ≤ 200
      omega
    · show 0 ≤ f ∧ f ≤ 8759
      omega
    · show 0 ≤ (if 20 = 20 ∧ j = b then f + u else A 20 j) ∧ (if 20 = 20 ∧ j = b then f + u else A 20 j) ≤ 8784
      by_cases e : j = b
      · rw [if_pos ⟨rfl, e⟩]; omega
      · rw [if_neg (fun z => e z.2)]; exact a5 j hj
    · show 0 ≤ (if 21 = 21 ∧ j = r then f + u else A 21 j) ∧ (if 21 = 21 ∧ j = r then f + u else A 21 j) ≤ 8784
      by_cases e : j = r
      · rw [if_pos ⟨rfl, e⟩]; omega
      · rw [if_neg (fun z => e z.2)]; exact a6 j hj
    · obtain ⟨c1, c2, c3, c4, c5⟩ := a7 j hj
      have c4' : A 24 j = (rct (aN A (8 * b + r) n r b f u g v m) j : Int) := c4
      show (-1 ≤ (if 22 = 22 ∧ j = 8 * b + r then v else A 22 j) ∧ (if 22 = 22 ∧ j = 8 * b + r then v else A 22 j) ≤ 401) ∧ (0 ≤ (if 23 = 23 ∧ j = 8 * b + r then v else A 23 j) ∧ (if 23 = 23 ∧ j = 8 * b + r then v else A 23 j) ≤ 401) ∧ ((if 23 = 23 ∧ j = 8 * b + r then v else A 23 j) = 0 ↔ (if 22 = 22 ∧ j = 8 * b + r then v else A 22 j) = 0) ∧ A 24 j = (rct (aN A (8 * b + r) n r b f u g v m) j : Int) ∧ (-1 ≤ A 25 j ∧ A 25 j ≤ 8784)
      by_cases e : j = 8 * b + r
      · rw [if_pos ⟨rfl, e⟩, if_pos ⟨rfl, e⟩]
        exact ⟨by omega, by omega, Iff.rfl, c4', c5⟩
      · rw [if_neg (fun z => e z.2), if_neg (fun z => e z.2)]
        exact ⟨c1, c2, c3, c4', c5⟩
    · show (if 22 = 22 ∧ 8 * b' + r' = 8 * b + r then v else A 22 (8 * b' + r')) = 0
      rw [if_neg (by omega)]
      exact (a8 b' r' hb' hr' ho).1
    · have hi : (i : Int) < ((n + 1 : Nat) : Int) := hi
      show (0 ≤ (if 26 = 26 ∧ i = n then (r : Int) else A 26 i) ∧ (if 26 = 26 ∧ i = n then (r : Int) else A 26 i) < A 3 0) ∧ (0 ≤ (if 27 = 27 ∧ i = n then (b : Int) else A 27 i) ∧ (if 27 = 27 ∧ i = n then (b : Int) else A 27 i) < A 2 0) ∧ 0 ≤ (if 28 = 28 ∧ i = n then f else A 28 i) ∧ 1 ≤ (if 29 = 29 ∧ i = n then u else A 29 i) ∧ (if 29 = 29 ∧ i = n then u else A 29 i) ≤ 24 ∧ (if 28 = 28 ∧ i = n then f else A 28 i) + (if 29 = 29 ∧ i = n then u else A 29 i) ≤ 8760
      by_cases e : i = n
      · rw [if_pos ⟨rfl, e⟩, if_pos ⟨rfl, e⟩, if_pos ⟨rfl, e⟩, if_pos ⟨rfl, e⟩]
        omega
      · rw [if_neg (fun z => e z.2), if_neg (fun z => e z.2), if_neg (fun z => e z.2), if_neg (fun z => e z.2)]
        exact a10 i (by omega)
  exact ⟨g1, hL, g3⟩
theorem c_addN (h : CI p A S) (hw : wf A) {n r b : Nat} (hb : (b : Int) < A 2 0) (hr : (r : Int) < A 3 0) (hn : A 4 0 = n) (h7 : n < 200) (f u g v m : Int) : CI p (aN A (8 * b + r) n r b f u g v m) (z_w1 (z_w1 (z_w1 (z_w1 (z_w1 (z_w1 (z_w1 (z_w1 (z_w1 (z_w1 (z_w1 (z_w1 S.1 28 (r * 10 + b) (iI v)) 29 (r * 10 + b) (iI v)) 25 (n * 6) (iI (r : Int))) 25 (n * 6 + 1) (iI (b : Int))) 25 (n * 6 + 2) (iI f)) 25 (n * 6 + 3) (iI u)) 25 (n * 6 + 4) (iI g)) 25 (n * 6 + 5) (iI m)) 24 0 (iI ((n + 1 : Nat) : Int))) 24 2 (iI f)) 26 b (iI (f + u))) 27 r (iI (f + u)), S.2) := by
  have hb2 := hw.b
  have hr2 := hw.r
  have d0 : cDo A := fun x hx => cD_le hw x hx
  have k0 := h.w2 (x := 22) (j := 8 * b + r) (v := v) (a := 28) (i := r * 10 + b) d0 (by decide) (show 8 * b + r < 80 by omega) (by decide) rfl (by show (8 * b + r) % 8 * 10 + (8 * b + r) / 8 = _; omega) rfl
  have d1 := cDo_u (x := 22) (j := 8 * b + r) (v := v) d0 (by decide)
  have k1 := k0.w2 (x := 23) (j := 8 * b + r) (v := v) (a := 29) (i := r * 10 + b) d1 (by decide) (show 8 * b + r < 80 by omega) (by decide) rfl (by show (8 * b + r) % 8 * 10 + (8 * b + r) / 8 = _; omega) rfl
  have d2 := cDo_u (x := 23) (j := 8 * b + r) (v := v) d1 (by decide)
  have k2 := k1.w2 (x := 26) (j := n) (v := (r : Int)) (a := 25) (i := n * 6) d2 (by decide) (show n < 200 from h7) (by decide) rfl (by show 0 + 6 * n = _; omega) rfl
  have d3 := cDo_u (x := 26) (j := n) (v := (r : Int)) d2 (by decide)
  have k3 := k2.w2 (x := 27) (j := n) (v := (b : Int)) (a := 25) (i := n * 6 + 1) d3 (by decide) (show n < 200 from h7) (by decide) rfl (by show 1 + 6 * n = _; omega) rfl
  have d4 := cDo_u (x := 27) (j := n) (v := (b : Int)) d3 (by decide)
  have k4 := k3.w2 (x := 28) (j := n) (v := f) (a := 25) (i := n * 6 + 2) d4 (by decide) (show n < 200 from h7) (by decide) rfl (by show 2 + 6 * n = _; omega) rfl
  have d5 := cDo_u (x := 28) (j := n) (v := f) d4 (by decide)
  have k5 := k4.w2 (x := 29) (j := n) (v := u) (a := 25) (i := n * 6 + 3) d5 (by decide) (show n < 200 from h7) (by decide) rfl (by show 3 + 6 * n = _; omega) rfl
  have d6 := cDo_u (x := 29) (j := n) (v := u) d5 (by decide)
  have k6 := k5.w2 (x := 30) (j := n) (v := g) (a := 25) (i := n * 6 + 4) d6 (by decide) (show n < 200 from h7) (by decide) rfl (by show 4 + 6 * n = _; omega) rfl
  have d7 := cDo_u (x := 30) (j := n) (v := g) d6 (by decide)
  have k7 := k6.w2 (x := 31) (j := n) (v := m) (a := 25) (i := n * 6 + 5) d7 (by decide) (show n < 200 from h7) (by decide) rfl (by show 5 + 6 * n = _; omega) rfl
  have d8 := cDo_u (x := 31) (j := n) (v := m) d7 (by decide)
  have k8 := k7.i4 (n := n) d8 hn h7 (fun y h1 h2 => by
    have h3 : y = 26 ∨ y = 27 ∨ y = 28 ∨ y = 29 ∨ y = 30 ∨ y = 31 := by omega
    dsimp only
    rcases h3 with rfl | rfl | rfl | rfl | rfl | rfl <;> simp [z_w1_r, aU_r, Nat.mul_comm, Nat.add_comm] <;> omega)
  have d9 : cDo (aU (aU (aU (aU (aU (aU (aU (aU (aU A 22 (8 * b + r) v) 23 (8 * b + r) v) 26 n (r : Int)) 27 n (b : Int)) 28 n f) 29 n u) 30 n g) 31 n m) 4 0 ((n + 1 : Nat) : Int)) := fun y hy => by
    rw [dD_4]
    by_cases q : g4 y = true
    · rw [if_pos q]
      have h3 : 26 ≤ y ∧ y < 32 := by simpa [g4] using q
      have h2 : y = 26 ∨ y = 27 ∨ y = 28 ∨ y = 29 ∨ y = 30 ∨ y = 31 := by omega
      have e9 : ((n + 1 : Nat) : Int).toNat ≤ 200 := by omega
      rcases h2 with rfl | rfl | rfl | rfl | rfl | rfl <;> exact e9
    · rw [if_neg q]; exact d8 y hy
  have k9 := k8.w2 (x := 5) (j := 0) (v := f) (a := 24) (i := 2) d9 (by decide) (by decide) (by decide) rfl rfl rfl
  have d10 := cDo_u (x := 5) (j := 0) (v := f) d9 (by decide)
  have k10 := k9.w2 (x := 20) (j := b) (v := f + u) (a := 26) (i := b) d10 (by decide) (show b < 10 by omega) (by decide) rfl (by show 0 + 1 * b = _; omega) rfl
  have d11 := cDo_u (x := 20) (j := b) (v := f + u) d10 (by decide)
  exact k10.w2 (x := 21) (j := r) (v := f + u) (a := 27) (i := r) d11 (by decide) (show r < 8 by omega) (by decide) rfl (by show 0 + 1 * r = _; omega) rfl
end ENT
