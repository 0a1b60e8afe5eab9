/-! the invariant between calls -/
def kx (x : Nat) : Nat := if x < 10 then x + 37 else if x < 65 then x + 25 else x + 1
def dD (A : aS) (x : Nat) : Nat :=
  if x < 10 then 1 else if x = 10 then (A 0 0).toNat else if x < 13 then (A 2 0).toNat else if x < 19 then (A 3 0).toNat else if x = 19 then (A 67 0).toNat
  else if x < 26 then cn x else if x < 32 then (A 4 0).toNat else if x < 36 then (A 6 0).toNat else if x < 38 then (A 7 0).toNat else if x < 40 then cn x else if x = 40 then (A 9 0).toNat
  else if x = 65 then 32080 else if A 8 0 = 0 then 0 else if x < 51 then cn x else if x < 57 then (A 41 0).toNat else if x < 61 then (A 43 0).toNat else if x < 63 then (A 44 0).toNat else if x < 65 then cn x else 32080
def mD (A : aS) (x : Nat) : Nat := if x = 9 ∨ x = 24 ∨ x = 49 then 0 else dD A x
/-- the height of the stack behind a piece of code -/
def cdh (c : Nat → Int) : Nat → Nat → Nat → Option Nat
  | _, 0, h => some h
  | f, n + 1, h => if -20 < c f then (if h < 60 then cdh c (f + 1) n (h + 1) else none) else if c f = -28 then (if 1 ≤ h then cdh c (f + 1) n h else none) else if 2 ≤ h then cdh c (f + 1) n (h - 1) else none
def cok (v : Int) : Prop := -28 ≤ v ∧ v ≤ 9999 ∧ (-7 ≤ v ∨ v ≤ -20)
/-- a plan's numbers -/
def PW (A : aS) : Prop :=
  (0 ≤ A 0 0 ∧ A 0 0 ≤ 700) ∧ (∀ j : Nat, (j : Int) < A 0 0 → 0 ≤ A 10 j ∧ A 10 j ≤ 255) ∧ (0 ≤ A 2 0 ∧ A 2 0 ≤ 10) ∧ (0 ≤ A 3 0 ∧ A 3 0 ≤ 8) ∧ (0 ≤ A 67 0 ∧ A 67 0 ≤ 700) ∧
  (∀ b : Nat, (b : Int) < A 2 0 → (1 ≤ A 11 b ∧ A 11 b ≤ 400) ∧ 0 ≤ A 12 b ∧ A 12 b ≤ 400) ∧
  (∀ r : Nat, (r : Int) < A 3 0 → (1 ≤ A 13 r ∧ A 13 r ≤ 60) ∧ (0 ≤ A 14 r ∧ A 14 r ≤ 3) ∧ (0 ≤ A 15 r ∧ A 15 r ≤ 20) ∧ (A 16 r = 0 ∨ A 16 r = 1) ∧ (0 ≤ A 17 r ∧ A 17 r ≤ A 18 r ∧ A 18 r ≤ A 67 0) ∧ (A 17 r = A 18 r ∨ cdh (A 19) (A 17 r).toNat (A 18 r - A 17 r).toNat 0 = some 1)) ∧
  (∀ k : Nat, (k : Int) < A 67 0 → cok (A 19 k)) ∧ (A 8 0 = 0 ∨ A 8 0 = 1) ∧ (0 ≤ A 9 0 ∧ A 9 0 ≤ 7) ∧ (∀ i : Nat, (i : Int) < A 9 0 → 0 ≤ A 40 i ∧ A 40 i < 7) ∧ (-1 ≤ A 1 0 ∧ A 1 0 ≤ 700)
/-- how many pages are read -/
def rct (B : aS) (j : Nat) : Nat := fb_ct (fun p => decide (B 65 (401 * j + p + 1) = 1)) 400
/-- a ledger's numbers, by books, readers and pages of A -/
def LW (A B : aS) : Prop :=
  (0 ≤ B 4 0 ∧ B 4 0 ≤ 200) ∧ (0 ≤ B 5 0 ∧ B 5 0 ≤ 8759) ∧ (0 ≤ B 6 0 ∧ B 6 0 ≤ 24) ∧ (0 ≤ B 7 0 ∧ B 7 0 ≤ 7) ∧
  (∀ j : Nat, j < 10 → 0 ≤ B 20 j ∧ B 20 j ≤ 8784) ∧ (∀ j : Nat, j < 8 → 0 ≤ B 21 j ∧ B 21 j ≤ 8784) ∧
  (∀ j : Nat, j < 80 → (-1 ≤ B 22 j ∧ B 22 j ≤ 401) ∧ (0 ≤ B 23 j ∧ B 23 j ≤ 401) ∧ (B 23 j = 0 ↔ B 22 j = 0) ∧ B 24 j = (rct B j : Int) ∧ (-1 ≤ B 25 j ∧ B 25 j ≤ 8784)) ∧
  (∀ b r : Nat, b < 10 → r < 8 → (A 2 0 ≤ b ∨ A 3 0 ≤ r) → B 22 (8 * b + r) = 0 ∧ ∀ p : Nat, p < 401 → B 65 (401 * (8 * b + r) + p) = 0) ∧
  (∀ b r : Nat, (b : Int) < A 2 0 → (r : Int) < A 3 0 → (B 25 (8 * b + r) = -1 ↔ B 24 (8 * b + r) < A 11 b) ∧ ∀ p : Nat, p < 401 → (B 65 (401 * (8 * b + r) + p) = 0 ∨ B 65 (401 * (8 * b + r) + p) = 1 ∧ 1 ≤ p ∧ (p : Int) ≤ A 11 b)) ∧
  (∀ i : Nat, (i : Int) < B 4 0 → (0 ≤ B 26 i ∧ B 26 i < A 3 0) ∧ (0 ≤ B 27 i ∧ B 27 i < A 2 0) ∧ 0 ≤ B 28 i ∧ 1 ≤ B 29 i ∧ B 29 i ≤ 24 ∧ B 28 i + B 29 i ≤ 8760) ∧
  (∀ i : Nat, (i : Int) < B 6 0 → (0 ≤ B 32 i ∧ B 32 i < A 2 0) ∧ (0 ≤ B 33 i ∧ B 33 i ≤ 8759) ∧ (0 ≤ B 34 i ∧ B 34 i ≤ 3) ∧ 1 ≤ B 35 i ∧ B 35 i ≤ 401) ∧
  (∀ b : Int, fb_ct (fun i => decide (B 32 i = b)) (B 6 0).toNat ≤ 6) ∧
  (∀ i : Nat, (i : Int) < B 7 0 → (1 ≤ B 36 i ∧ B 36 i ≤ 99) ∧ 0 ≤ B 37 i ∧ B 37 i ≤ 999) ∧
  (∀ j : Nat, j < 60 → 0 ≤ B 38 j ∧ B 38 j ≤ 401)
def kA (A : aS) : aS := fun x => A (kx x)
def wf (A : aS) : Prop := PW A ∧ LW A A ∧ (A 8 0 = 1 → LW A (kA A))
/-- the bits of the pages read: at w = 32 those of now, at 46 those kept -/
def BR (B : aS) (w : Nat) (S : z_St) : Prop := ∀ b r : Nat, b < 10 → r < 8 → ∀ p : Nat, p < 448 → (S.2 w ((r * 10 + b) * 7 + p / 64)).toBitVec.getLsbD (p % 64) = (decide (p < 400) && decide (B 65 (401 * (8 * b + r) + p + 1) = 1))
def CI (p : Nat) (A : aS) (S : z_St) : Prop := (p = 2 ∨ p = 12) ∧ S.1 0 3 = iI p ∧ S.1 0 4 = iI (14 - p) ∧ CR p A (dD A) S ∧ BR A 32 S ∧ (A 8 0 = 1 → BR (kA A) 46 S)
def MI (A : aS) (S : z_St) : Prop := MR A (mD A) S ∧ (S.1 70 63 = iI (A 9 0) ∨ S.1 70 63 = iI (-1) ∧ A 9 0 = 0)
/-- what a call of the class, of the model leaves -/
def fC (S S' : z_St) : Prop := ∀ a, 70 ≤ a → S'.1 a = S.1 a ∧ S'.2 a = S.2 a
def fM (S S' : z_St) : Prop := ∀ a, a < 70 ∨ 116 ≤ a → S'.1 a = S.1 a ∧ S'.2 a = S.2 a
theorem fC.rf (S : z_St) : fC S S := fun _ _ => ⟨rfl, rfl⟩
theorem fM.rf (S : z_St) : fM S S := fun _ _ => ⟨rfl, rfl⟩
theorem fC.tr {S S1 S2 : z_St} (h : fC S S1) (h2 : fC S1 S2) : fC S S2 := fun a ha => ⟨(h2 a ha).1.trans (h a ha).1, (h2 a ha).2.trans (h a ha).2⟩
theorem fM.tr {S S1 S2 : z_St} (h : fM S S1) (h2 : fM S1 S2) : fM S S2 := fun a ha => ⟨(h2 a ha).1.trans (h a ha).1, (h2 a ha).2.trans (h a ha).2⟩
theorem fC_w1 {S : z_St} {a i : Nat} {v : Int32} (h : a < 70) : fC S (z_w1 S.1 a i v, S.2) := fun b hb => ⟨z_w1_ne (by omega), rfl⟩
theorem fC_w2 {S : z_St} {a i : Nat} {v : Int64} (h : a < 70) : fC S (S.1, z_w2 S.2 a i v) := fun b hb => ⟨rfl, z_w2_ne (by omega)⟩
theorem fC_c1 {S : z_St} {a b i j k : Nat} (h : b < 70) : fC S (z_c1 S.1 a b i j k, S.2) := fun c hc => ⟨z_c1_ne (by omega), rfl⟩
theorem fC_c2 {S : z_St} {a b i j k : Nat} (h : b < 70) : fC S (S.1, z_c2 S.2 a b i j k) := fun c hc => ⟨rfl, z_c2_ne (by omega)⟩
theorem fM_w1 {S : z_St} {a i : Nat} {v : Int32} (h : 70 ≤ a) (h2 : a < 116) : fM S (z_w1 S.1 a i v, S.2) := fun b hb => ⟨z_w1_ne (by omega), rfl⟩
theorem ci_lt : ∀ p, (p = 2 ∨ p = 12) → ∀ x, x < 65 → ci p x < 70 := by
  intro p hp
  rcases hp with rfl | rfl <;> decide +kernel
theorem mi_in : ∀ x, x < 67 → (70 ≤ mi x ∧ mi x < 116) ∨ mn x = 0 := by decide +kernel
theorem CI.m {p : Nat} {A : aS} {S S' : z_St} (h : CI p A S) (hf : fM S S') : CI p A S' := by
  obtain ⟨h1, h2, h3, h4, h5, h6⟩ := h
  refine ⟨h1, by rw [(hf 0 (by omega)).1]; exact h2, by rw [(hf 0 (by omega)).1]; exact h3, h4.f (fun x hx j hj => by rw [(hf (ci p x) (Or.inl (ci_lt p h1 x hx))).1]), ?_, ?_⟩
  · intro b r hb hr q hq
    rw [(hf 32 (by omega)).2]
    exact h5 b r hb hr q hq
  · intro ha b r hb hr q hq
    rw [(hf 46 (by omega)).2]
    exact h6 ha b r hb hr q hq
def cnv (y : Nat) : Nat := if y < 10 then 1 else if y = 10 then 700 else if y < 13 then 10 else if y < 19 then 8 else if y = 19 then 700 else if y < 26 then cn y else if y < 32 then 200 else if y < 36 then 24 else if y < 38 then 7 else if y < 40 then cn y else if y = 40 then 7 else if y < 51 then cn y else if y < 57 then 200 else if y < 61 then 24 else if y < 63 then 7 else cn y
theorem cnv_ok : ∀ y, y < 65 → cn y = cnv y := by decide +kernel
theorem dD_le {A : aS} (h : PW A) (h2 : LW A A) (h3 : A 8 0 = 1 → LW A (kA A)) (x : Nat) (hx : x < 67) : dD A x ≤ (if x < 65 then cn x else 32080) := by
  obtain ⟨a1, -, a2, a3, a4, -, -, -, a5, a6, -⟩ := h
  obtain ⟨b1, -, b2, b3, -⟩ := h2
  have hk : A 8 0 = 0 ∨ (A 41 0 ≤ 200 ∧ A 43 0 ≤ 24 ∧ A 44 0 ≤ 7) := by
    rcases a5 with a5 | a5
    · exact Or.inl a5
    · obtain ⟨c1, -, c2, c3, -⟩ := h3 a5
      exact Or.inr ⟨c1.2, c2.2, c3.2⟩
  have hc := cnv_ok
  unfold dD
  by_cases hx2 : x < 65
  · have d1 := hc x hx2
    rw [if_pos hx2]
    unfold cnv at d1
    by_cases q0 : x < 10
    · rw [if_pos q0] at d1 ⊢; omega
    rw [if_neg q0] at d1 ⊢
    by_cases q1 : x = 10
    · rw [if_pos q1] at d1 ⊢; omega
    rw [if_neg q1] at d1 ⊢
    by_cases q2 : x < 13
    · rw [if_pos q2] at d1 ⊢; omega
    rw [if_neg q2] at d1 ⊢
    by_cases q3 : x < 19
    · rw [if_pos q3] at d1 ⊢; omega
    rw [if_neg q3] at d1 ⊢
    by_cases q4 : x = 19
    · rw [if_pos q4] at d1 ⊢; omega
    rw [if_neg q4] at d1 ⊢
    by_cases q5 : x < 26
    · rw [if_pos q5] at d1 ⊢; omega
    rw [if_neg q5] at d1 ⊢
    by_cases q6 : x < 32
    · rw [if_pos q6] at d1 ⊢; omega
    rw [if_neg q6] at d1 ⊢
    by_cases q7 : x < 36
    · rw [if_pos q7] at d1 ⊢; omega
    rw [if_neg q7] at d1 ⊢
    by_cases q8 : x < 38
    · rw [if_pos q8] at d1 ⊢; omega
    rw [if_neg q8] at d1 ⊢
    by_cases q9 : x < 40
    · rw [if_pos q9] at d1 ⊢; omega
    rw [if_neg q9] at d1 ⊢
    by_cases q10 : x = 40
    · rw [if_pos q10] at d1 ⊢; omega
    rw [if_neg q10] at d1 ⊢
    rw [if_neg (by omega)]
    by_cases q8 : A 8 0 = 0
    · rw [if_pos q8]; omega
    rw [if_neg q8]
    by_cases r0 : x < 51
    · rw [if_pos r0] at d1 ⊢; omega
    rw [if_neg r0] at d1 ⊢
    by_cases r1 : x < 57
    · rw [if_pos r1] at d1 ⊢; omega
    rw [if_neg r1] at d1 ⊢
    by_cases r2 : x < 61
    · rw [if_pos r2] at d1 ⊢; omega
    rw [if_neg r2] at d1 ⊢
    by_cases r3 : x < 63
    · rw [if_pos r3] at d1 ⊢; omega
    rw [if_neg r3] at d1 ⊢
    exact Nat.le_refl _
  · rw [if_neg hx2]
    have hx3 : x = 65 ∨ x = 66 := by omega
    rcases hx3 with rfl | rfl
    · exact Nat.le_refl _
    · show (if A 8 0 = 0 then 0 else 32080) ≤ 32080
      by_cases q8 : A 8 0 = 0
      · rw [if_pos q8]; omega
      · rw [if_neg q8]; omega
theorem mn_cn : ∀ x, x < 65 → x ≠ 9 → x ≠ 24 → x ≠ 49 → mn x = cn x := by decide +kernel
theorem mn_65 : mn 65 = 32080 ∧ mn 66 = 32080 := by decide +kernel
theorem cD_le {A : aS} (h : wf A) (x : Nat) (hx : x < 65) : dD A x ≤ cn x := by
  have := dD_le h.1 h.2.1 h.2.2 x (by omega)
  rwa [if_pos hx] at this
theorem mD_le {A : aS} (h : wf A) (x : Nat) (hx : x < 67) : mD A x ≤ mn x := by
  have h1 := dD_le h.1 h.2.1 h.2.2 x hx
  unfold mD
  by_cases hq : x = 9 ∨ x = 24 ∨ x = 49
  · rw [if_pos hq]; omega
  · rw [if_neg hq]
    by_cases hx2 : x < 65
    · rw [if_pos hx2] at h1
      rw [mn_cn x hx2 (by omega) (by omega) (by omega)]
      exact h1
    · rw [if_neg hx2] at h1
      have hx3 : x = 65 ∨ x = 66 := by omega
      rcases hx3 with rfl | rfl
      · rw [mn_65.1]; exact h1
      · rw [mn_65.2]; exact h1
theorem MI.c {A : aS} {S S' : z_St} (hw : wf A) (h : MI A S) (hf : fC S S') : MI A S' := by
  refine ⟨h.1.f (fun x hx j hj => ?_), by rw [(hf 70 (by omega)).1]; exact h.2⟩
  rcases mi_in x hx with q | q
  · rw [(hf (mi x) q.1).1]
  · have := mD_le hw x hx
    omega
