/-! a law's text: pure -/
abbrev pR : Type := Sum (Nat × List Int) (Int × Nat)
def pB (r : pR) (g : Nat → List Int → pR) : pR := match r with
  | .inl x => g x.1 x.2
  | .inr e => .inr e
def nx (T : Nat → Int) (n s : Nat) : Nat := rn tkB T n (en T n s)
/-- which value a word means -/
def wvI (i : Nat) : Int := if i = 1 then 6 else if 11 ≤ i then (i : Int) - 11 else -1
def pPt (T : Nat → Int) (n s : Nat) (c : List Int) : pR := if kd T n s = 1 then (if 9999 < nb T n s then .inr (2, s) else .inl (nx T n s, c ++ [nb T n s])) else if kd T n s = 2 then (if wvI (wd T n s) = -1 then .inr (3, s) else .inl (nx T n s, c ++ [-1 - wvI (wd T n s)])) else .inr (1, s)
def jn (T : Nat → Int) (n s : Nat) : Int := if kd T n s = 42 ∨ kd T n s = 47 then 4 else if kd T n s = 43 ∨ kd T n s = 45 then 3 else if kd T n s = 60 ∨ kd T n s = 61 then 2 else if wd T n s = 9 then 1 else if wd T n s = 8 then 0 else -1
def opC (T : Nat → Int) (n s : Nat) : Int := if wd T n s = 9 then -26 else if wd T n s = 8 then -27 else if kd T n s = 43 then -20 else if kd T n s = 45 then -21 else if kd T n s = 42 then -22 else if kd T n s = 47 then -23 else if kd T n s = 60 then -24 else -25
def pNt (T : Nat → Int) (n : Nat) : Nat → Nat → Nat × Nat
  | 0, s => (0, s)
  | k + 1, s => if wd T n s = 10 then ((pNt T n k (nx T n s)).1 + 1, (pNt T n k (nx T n s)).2) else (0, s)
def pLp (T : Nat → Int) (n : Nat) (o : Nat → List Int → pR) (lev : Nat) : Nat → Nat → List Int → pR
  | 0, s, c => .inl (s, c)
  | m + 1, s, c => if jn T n s = lev then pB (o (nx T n s) c) (fun s' c' => pLp T n o lev m s' (c' ++ [opC T n s])) else .inl (s, c)
/-- an operand, out of what a level gives -/
def pO (T : Nat → Int) (n : Nat) (g : Nat → Nat → Nat → List Int → pR) (lev ar s : Nat) (c : List Int) : pR :=
  if lev < 4 then g (lev + 1) ar s c else if kd T n s = 40 then (if ar < 5 then pB (g 0 (ar + 1) (nx T n s) c) (fun s c => if kd T n s = 41 then .inl (nx T n s, c) else .inr (1, s)) else if kd T n (nx T n s) = 1 ∨ kd T n (nx T n s) = 2 ∨ kd T n (nx T n s) = 40 then .inr (2, nx T n s) else .inr (1, nx T n s)) else pPt T n s c
/-- a level, out of its operands -/
def pV (T : Nat → Int) (n : Nat) (o : Nat → List Int → pR) (lev s : Nat) (c : List Int) : pR :=
  if lev = 2 then (if wd T n (pNt T n 6 s).2 = 10 then .inr (2, (pNt T n 6 s).2) else pB (o (pNt T n 6 s).2 c) (fun s' c' => pB (pLp T n o 2 1 s' c') (fun s2 c2 => .inl (s2, c2 ++ List.replicate (pNt T n 6 s).1 (-28))))) else pB (o s c) (fun s' c' => pLp T n o lev 700 s' c')
def pL (T : Nat → Int) (n : Nat) : Nat → Nat → Nat → Nat → List Int → pR
  | 0, _, _, s, _ => .inr (9, s)
  | f + 1, lev, ar, s, c => pV T n (pO T n (pL T n f) lev ar) lev s c
theorem pL_s {T : Nat → Int} {n f lev ar s : Nat} {c : List Int} : pL T n (f + 1) lev ar s c = pV T n (pO T n (pL T n f) lev ar) lev s c := rfl
theorem en_r {T : Nat → Int} {n s : Nat} (h : s < n) : s < en T n s ∧ en T n s ≤ n := by
  unfold en
  rw [if_neg (by omega)]
  have key : ∀ P : Int → Bool, P (T s) = true → s < rn P T n s ∧ rn P T n s ≤ n := by
    intro P hP
    unfold rn
    obtain ⟨k, hk⟩ : ∃ k, n - s = k + 1 := ⟨n - s - 1, by omega⟩
    rw [hk, rnF_s, if_pos hP]
    have := rnF_r (P := P) (T := T) k (s + 1)
    omega
  by_cases c1 : tkL (T s) = true
  · rw [if_pos c1]
    exact key tkL c1
  · rw [if_neg c1]
    by_cases c2 : tkD (T s) = true
    · rw [if_pos c2]
      exact key tkD c2
    · rw [if_neg c2]
      omega
theorem nx_r {T : Nat → Int} {n s : Nat} (h : s < n) : s < nx T n s ∧ nx T n s ≤ n := by
  have h1 := en_r (T := T) h
  have h2 := rn_r (P := tkB) (T := T) h1.2
  unfold nx
  omega
theorem kd_lt {T : Nat → Int} {n s : Nat} (h : kd T n s ≠ 0) : s < n := by
  refine Classical.byContradiction (fun c => h ?_)
  unfold kd
  rw [if_pos (by omega)]
theorem wd_lt {T : Nat → Int} {n s : Nat} (h : wd T n s ≠ 0) : s < n ∧ kd T n s = 2 := by
  unfold wd at h
  by_cases c : n ≤ s
  · rw [if_pos c] at h
    exact absurd rfl h
  · rw [if_neg c] at h
    by_cases cl : tkL (T s) = true
    · refine ⟨by omega, ?_⟩
      unfold kd
      rw [if_neg c, if_pos cl]
    · rw [if_neg cl] at h
      exact absurd rfl h
theorem jn_lt {T : Nat → Int} {n s : Nat} (h : 0 ≤ jn T n s) : s < n := by
  unfold jn at h
  by_cases c1 : kd T n s = 0
  · by_cases c2 : wd T n s = 0
    · rw [c1, c2] at h
      exact absurd h (by decide)
    · exact (wd_lt c2).1
  · exact kd_lt c1
