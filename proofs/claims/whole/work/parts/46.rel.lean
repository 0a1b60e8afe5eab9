/-! the abstract state A: component, place; where the class and the model keep it -/
def cT : List (Nat × Nat × Nat × Nat × Nat) := [(0, 0, 1, 0, 1), (0, 0, 2, 0, 1), (1, 0, 0, 0, 1), (1, 0, 3, 0, 1), (0, 24, 0, 0, 1), (0, 24, 2, 0, 1), (0, 24, 10, 0, 1), (0, 24, 12, 0, 1), (0, 0, 8, 0, 1), (0, 64, 1, 0, 1), (0, 1, 0, 1, 700), (1, 1, 0, 1, 10), (1, 2, 0, 1, 10), (1, 3, 0, 1, 8), (1, 4, 0, 1, 8), (1, 5, 0, 1, 8), (1, 6, 0, 1, 8), (1, 7, 0, 1, 8), (1, 8, 0, 1, 8), (1, 9, 0, 1, 700), (0, 26, 0, 1, 10), (0, 27, 0, 1, 8), (2, 28, 0, 1, 80), (2, 29, 0, 1, 80), (2, 30, 0, 1, 80), (2, 31, 0, 1, 80), (0, 25, 0, 6, 200), (0, 25, 1, 6, 200), (0, 25, 2, 6, 200), (0, 25, 3, 6, 200), (0, 25, 4, 6, 200), (0, 25, 5, 6, 200), (0, 33, 0, 4, 24), (0, 33, 1, 4, 24), (0, 33, 2, 4, 24), (0, 33, 3, 4, 24), (0, 34, 0, 1, 7), (0, 35, 0, 1, 7), (0, 36, 0, 1, 60), (0, 37, 0, 1, 5), (0, 65, 0, 1, 7), (0, 38, 0, 0, 1), (0, 38, 2, 0, 1), (0, 38, 10, 0, 1), (0, 38, 12, 0, 1), (0, 40, 0, 1, 10), (0, 41, 0, 1, 8), (2, 42, 0, 1, 80), (2, 43, 0, 1, 80), (2, 44, 0, 1, 80), (2, 45, 0, 1, 80), (0, 39, 0, 6, 200), (0, 39, 1, 6, 200), (0, 39, 2, 6, 200), (0, 39, 3, 6, 200), (0, 39, 4, 6, 200), (0, 39, 5, 6, 200), (0, 47, 0, 4, 24), (0, 47, 1, 4, 24), (0, 47, 2, 4, 24), (0, 47, 3, 4, 24), (0, 48, 0, 1, 7), (0, 49, 0, 1, 7), (0, 50, 0, 1, 60), (0, 51, 0, 1, 5)]
def mT : List (Nat × Nat × Nat × Nat) := [(70, 17, 0, 1), (70, 26, 0, 1), (70, 2, 0, 1), (70, 3, 0, 1), (70, 28, 0, 1), (70, 29, 0, 1), (70, 44, 0, 1), (70, 57, 0, 1), (70, 67, 0, 1), (909, 0, 1, 0), (82, 0, 1, 700), (72, 0, 1, 10), (73, 0, 1, 10), (74, 0, 1, 8), (75, 0, 1, 8), (76, 0, 1, 8), (81, 0, 1, 8), (77, 0, 1, 8), (78, 0, 1, 8), (79, 0, 1, 700), (86, 0, 1, 10), (87, 0, 1, 8), (83, 0, 1, 80), (84, 0, 1, 80), (924, 0, 1, 0), (85, 0, 1, 80), (89, 0, 1, 200), (90, 0, 1, 200), (91, 0, 1, 200), (92, 0, 1, 200), (93, 0, 1, 200), (94, 0, 1, 200), (97, 0, 1, 24), (98, 0, 1, 24), (99, 0, 1, 24), (100, 0, 1, 24), (108, 0, 1, 7), (109, 0, 1, 7), (112, 0, 1, 60), (80, 0, 1, 5), (110, 0, 1, 7), (114, 0, 0, 1), (114, 1, 0, 1), (114, 2, 0, 1), (114, 3, 0, 1), (114, 4, 1, 10), (114, 14, 1, 8), (114, 22, 1, 80), (114, 102, 1, 80), (949, 0, 1, 0), (114, 182, 1, 80), (114, 262, 1, 200), (114, 462, 1, 200), (114, 662, 1, 200), (114, 862, 1, 200), (114, 1062, 1, 200), (114, 1262, 1, 200), (114, 1462, 1, 24), (114, 1486, 1, 24), (114, 1510, 1, 24), (114, 1534, 1, 24), (114, 1565, 1, 7), (114, 1572, 1, 7), (114, 1579, 1, 60), (114, 1639, 1, 5), (88, 0, 1, 32080), (115, 0, 1, 32080)]
def ci (p x : Nat) : Nat := if (cT.getD x (0, 0, 0, 0, 0)).1 = 1 then p + (cT.getD x (0, 0, 0, 0, 0)).2.1 else (cT.getD x (0, 0, 0, 0, 0)).2.1
def cx (x j : Nat) : Nat := if (cT.getD x (0, 0, 0, 0, 0)).1 = 2 then (j % 8) * 10 + j / 8 else (cT.getD x (0, 0, 0, 0, 0)).2.2.1 + (cT.getD x (0, 0, 0, 0, 0)).2.2.2.1 * j
def cn (x : Nat) : Nat := (cT.getD x (0, 0, 0, 0, 0)).2.2.2.2
def mi (x : Nat) : Nat := (mT.getD x (0, 0, 0, 0)).1
def mx (x j : Nat) : Nat := (mT.getD x (0, 0, 0, 0)).2.1 + (mT.getD x (0, 0, 0, 0)).2.2.1 * j
def mn (x : Nat) : Nat := (mT.getD x (0, 0, 0, 0)).2.2.2
/-- a sign of a law's code, as the class has it -/
def enc (v : Int) : Int := if 0 ≤ v then v else if -7 ≤ v then 9999 - v else if v = -20 then -43 else if v = -21 then -45 else if v = -22 then -42 else if v = -23 then -47 else if v = -24 then -60 else if v = -25 then -61 else if v = -26 then -38 else if v = -27 then -124 else -33
def ce (x : Nat) (v : Int) : Int := if x = 10 then (if 128 ≤ v then v - 256 else v) else if x = 19 then enc v else v
theorem ce_id {x : Nat} {v : Int} (h1 : x ≠ 10) (h2 : x ≠ 19) : ce x v = v := by simp [ce, h1, h2]
abbrev aS : Type := Nat → Nat → Int
def aU (A : aS) (x j : Nat) (v : Int) : aS := fun y k => if y = x ∧ k = j then v else A y k
theorem aU_r (A : aS) (x j : Nat) (v : Int) (y k : Nat) : aU A x j v y k = if y = x ∧ k = j then v else A y k := rfl
def CR (p : Nat) (A : aS) (D : Nat → Nat) (S : z_St) : Prop := ∀ x, x < 65 → ∀ j, j < D x → S.1 (ci p x) (cx x j) = iI (ce x (A x j))
def MR (A : aS) (D : Nat → Nat) (S : z_St) : Prop := ∀ x, x < 67 → ∀ j, j < D x → S.1 (mi x) (mx x j) = iI (A x j)
/-- two places are one only if they are one -/
def c_ok (p : Nat) (x y : Nat) : Bool := decide (x = y) || !(decide (ci p x = ci p y)) || ((cT.getD x (0, 0, 0, 0, 0)).1 != 2 && (cT.getD y (0, 0, 0, 0, 0)).1 != 2 && decide ((cT.getD x (0, 0, 0, 0, 0)).2.2.2.1 = (cT.getD y (0, 0, 0, 0, 0)).2.2.2.1) && !(decide ((cT.getD x (0, 0, 0, 0, 0)).2.2.1 = (cT.getD y (0, 0, 0, 0, 0)).2.2.1)) && (decide ((cT.getD x (0, 0, 0, 0, 0)).2.2.2.1 = 0) || ((decide ((cT.getD x (0, 0, 0, 0, 0)).2.2.2.1 = 6) || decide ((cT.getD x (0, 0, 0, 0, 0)).2.2.2.1 = 4)) && decide ((cT.getD x (0, 0, 0, 0, 0)).2.2.1 < (cT.getD x (0, 0, 0, 0, 0)).2.2.2.1) && decide ((cT.getD y (0, 0, 0, 0, 0)).2.2.1 < (cT.getD y (0, 0, 0, 0, 0)).2.2.2.1))))
theorem c_okA : ∀ p, (p = 2 ∨ p = 12) → ∀ x, x < 65 → ∀ y, y < 65 → c_ok p x y = true := by
  intro p hp
  rcases hp with rfl | rfl <;> decide +kernel
theorem c_str : ∀ x, x < 65 → (cT.getD x (0, 0, 0, 0, 0)).1 = 2 ∧ (cT.getD x (0, 0, 0, 0, 0)).2.2.2.2 ≤ 80 ∨ (cT.getD x (0, 0, 0, 0, 0)).1 ≠ 2 ∧ (cT.getD x (0, 0, 0, 0, 0)).2.2.2.1 = 0 ∧ (cT.getD x (0, 0, 0, 0, 0)).2.2.2.2 = 1 ∨ (cT.getD x (0, 0, 0, 0, 0)).1 ≠ 2 ∧ ((cT.getD x (0, 0, 0, 0, 0)).2.2.2.1 = 1 ∨ (cT.getD x (0, 0, 0, 0, 0)).2.2.2.1 = 6 ∨ (cT.getD x (0, 0, 0, 0, 0)).2.2.2.1 = 4) := by decide +kernel
theorem c_inj {p x y j k : Nat} (hp : p = 2 ∨ p = 12) (hx : x < 65) (hy : y < 65) (hj : j < cn x) (hk : k < cn y) (h1 : ci p x = ci p y) (h2 : cx x j = cx y k) : x = y ∧ j = k := by
  have h := c_okA p hp x hx y hy
  unfold c_ok at h
  by_cases hxy : x = y
  · subst hxy
    refine ⟨rfl, ?_⟩
    unfold cx at h2
    unfold cn at hj hk
    rcases c_str x hx with ⟨g1, g2⟩ | ⟨g1, g2, g3⟩ | ⟨g1, g2⟩
    · rw [if_pos g1, if_pos g1] at h2
      omega
    · omega
    · rw [if_neg g1, if_neg g1] at h2
      rcases g2 with g2 | g2 | g2 <;> rw [g2] at h2 <;> omega
  · exfalso
    simp only [hxy, decide_false, h1, decide_true, Bool.not_true, Bool.false_or, Bool.and_eq_true, bne_iff_ne, ne_eq, decide_eq_true_eq, Bool.not_eq_true', decide_eq_false_iff_not, Bool.or_eq_true] at h
    obtain ⟨⟨⟨⟨a1, a2⟩, a3⟩, a4⟩, a5⟩ := h
    unfold cx at h2
    rw [if_neg a1, if_neg a2, ← a3] at h2
    rcases a5 with a5 | ⟨⟨a5, a6⟩, a7⟩
    · rw [a5] at h2; omega
    · rcases a5 with a5 | a5
      · rw [a5] at h2 a6; rw [← a3, a5] at a7; omega
      · rw [a5] at h2 a6; rw [← a3, a5] at a7; omega
def m_ok (x y : Nat) : Bool := decide (x = y) || !(decide (mi x = mi y)) || decide ((mT.getD x (0, 0, 0, 0)).2.1 + (mT.getD x (0, 0, 0, 0)).2.2.2 ≤ (mT.getD y (0, 0, 0, 0)).2.1) || decide ((mT.getD y (0, 0, 0, 0)).2.1 + (mT.getD y (0, 0, 0, 0)).2.2.2 ≤ (mT.getD x (0, 0, 0, 0)).2.1)
theorem m_okA : ∀ x, x < 67 → ∀ y, y < 67 → m_ok x y = true := by decide +kernel
theorem m_str : ∀ x, x < 67 → (mT.getD x (0, 0, 0, 0)).2.2.1 = 0 ∧ (mT.getD x (0, 0, 0, 0)).2.2.2 = 1 ∨ (mT.getD x (0, 0, 0, 0)).2.2.1 = 1 := by decide +kernel
theorem m_inj {x y j k : Nat} (hx : x < 67) (hy : y < 67) (hj : j < mn x) (hk : k < mn y) (h1 : mi x = mi y) (h2 : mx x j = mx y k) : x = y ∧ j = k := by
  have h := m_okA x hx y hy
  unfold m_ok at h
  unfold mx at h2
  unfold mn at hj hk
  have s1 := m_str x hx
  have s2 := m_str y hy
  by_cases hxy : x = y
  · subst hxy
    refine ⟨rfl, ?_⟩
    rcases s1 with ⟨g1, g2⟩ | g1
    · omega
    · rw [g1] at h2; omega
  · exfalso
    simp only [hxy, decide_false, h1, decide_true, Bool.not_true, Bool.false_or, Bool.or_eq_true, decide_eq_true_eq] at h
    rcases s1 with ⟨g1, g2⟩ | g1 <;> rcases s2 with ⟨g3, g4⟩ | g3 <;> rw [g1, g3] at h2 <;> omega
section REL
variable {p : Nat} {A : aS} {D D' : Nat → Nat} {S S' : z_St}
theorem CR.w (hp : p = 2 ∨ p = 12) (hD : ∀ x, x < 65 → D x ≤ cn x) (h : CR p A D S) {x j : Nat} {v : Int} (hx : x < 65) (hj : j < cn x) : CR p (aU A x j v) D (z_w1 S.1 (ci p x) (cx x j) (iI (ce x v)), S.2) := by
  intro y hy k hk
  show z_w1 S.1 (ci p x) (cx x j) (iI (ce x v)) (ci p y) (cx y k) = _
  rw [z_w1_r]
  by_cases hq : ci p y = ci p x ∧ cx y k = cx x j
  · obtain ⟨rfl, rfl⟩ := c_inj hp hy hx (Nat.lt_of_lt_of_le hk (hD y hy)) hj hq.1 hq.2
    rw [if_pos hq, aU_r, if_pos ⟨rfl, rfl⟩]
  · rw [if_neg hq, aU_r, if_neg (fun e => hq (by rw [e.1, e.2]; exact ⟨rfl, rfl⟩))]
    exact h y hy k hk
theorem CR.f (h : CR p A D S) (hf : ∀ x, x < 65 → ∀ j, j < D x → S'.1 (ci p x) (cx x j) = S.1 (ci p x) (cx x j)) : CR p A D S' := fun x hx j hj => (hf x hx j hj).trans (h x hx j hj)
theorem CR.d (h : CR p A D S) (hf : ∀ x, x < 65 → ∀ j, j < D' x → j < D x ∨ S.1 (ci p x) (cx x j) = iI (ce x (A x j))) : CR p A D' S := fun x hx j hj => (hf x hx j hj).elim (h x hx j) id
theorem CR.a {A' : aS} (h : CR p A D S) (hf : ∀ x, x < 65 → ∀ j, j < D x → A' x j = A x j) : CR p A' D S := fun x hx j hj => by rw [hf x hx j hj]; exact h x hx j hj
theorem MR.w (hD : ∀ x, x < 67 → D x ≤ mn x) (h : MR A D S) {x j : Nat} {v : Int} (hx : x < 67) (hj : j < mn x) : MR (aU A x j v) D (z_w1 S.1 (mi x) (mx x j) (iI v), S.2) := by
  intro y hy k hk
  show z_w1 S.1 (mi x) (mx x j) (iI v) (mi y) (mx y k) = _
  rw [z_w1_r]
  by_cases hq : mi y = mi x ∧ mx y k = mx x j
  · obtain ⟨rfl, rfl⟩ := m_inj hy hx (Nat.lt_of_lt_of_le hk (hD y hy)) hj hq.1 hq.2
    rw [if_pos hq, aU_r, if_pos ⟨rfl, rfl⟩]
  · rw [if_neg hq, aU_r, if_neg (fun e => hq (by rw [e.1, e.2]; exact ⟨rfl, rfl⟩))]
    exact h y hy k hk
theorem MR.f (h : MR A D S) (hf : ∀ x, x < 67 → ∀ j, j < D x → S'.1 (mi x) (mx x j) = S.1 (mi x) (mx x j)) : MR A D S' := fun x hx j hj => (hf x hx j hj).trans (h x hx j hj)
theorem MR.d (h : MR A D S) (hf : ∀ x, x < 67 → ∀ j, j < D' x → j < D x ∨ S.1 (mi x) (mx x j) = iI (A x j)) : MR A D' S := fun x hx j hj => (hf x hx j hj).elim (h x hx j) id
theorem MR.a {A' : aS} (h : MR A D S) (hf : ∀ x, x < 67 → ∀ j, j < D x → A' x j = A x j) : MR A' D S := fun x hx j hj => by rw [hf x hx j hj]; exact h x hx j hj
end REL
