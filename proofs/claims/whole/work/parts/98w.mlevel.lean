/-! the model's parser: levels -/
section ML
variable {T : Nat → Int} {n : Nat}
def mpG (T : Nat → Int) (n D m ar : Nat) (o : Nat → List Int → pR) : Prop := ∀ (r : pR) (S : z_St), RM T n r S → ∃ S', z_ew D m [.ref 70, .int (iI (ar : Int))] S = some (.inl none, S') ∧ RM T n (pB r o) S' ∧ frM S S'
section MF
variable {S : z_St} {k : Int} {pl : Nat}
theorem mF_129 (h : Fm T n k pl S) (l : Int32) (d : Nat) : z_ew (d + 1) 129 [.ref 70, .int l] S = some (.inl none, S) := by
  rw [zx_129, if_neg h.ne]
theorem mF_134 (h : Fm T n k pl S) (l : Int32) (d : Nat) : z_ew (d + 1) 134 [.ref 70, .int l] S = some (.inl none, S) := by
  rw [zx_134, if_neg h.ne]
theorem mF_130L (h : Fm T n k pl S) (l : Int32) (d2 : Option Value) (d fu : Nat) : z_R130 (d + 1) (fu + 2) 5 0 [some (.ref 70), some (.int l), d2] [] S = some (.inl none, S) := by
  rw [zq_130_5, m_ismF h, cli_i, if_pos (show bI false = 0 by rfl), m_ismF h, cli_i, if_pos (show bI false = 0 by rfl), zq_130_57]
theorem mF_130 (h : Fm T n k pl S) (l : Int32) (d : Nat) : z_ew (d + 2) 130 [.ref 70, .int l] S = some (.inl none, S) := by
  rw [zx_130, mF_129 h, clv_v]
  exact mF_130L h l none (d + 0) 999997
theorem mF_131L (h : Fm T n k pl S) (l : Int32) (d2 : Option Value) (d fu : Nat) : z_R131 (d + 1) (fu + 2) 5 0 [some (.ref 70), some (.int l), d2] [] S = some (.inl none, S) := by
  rw [zq_131_5, m_ismF h, cli_i, if_pos (show bI false = 0 by rfl), m_ismF h, cli_i, if_pos (show bI false = 0 by rfl), zq_131_57]
theorem mF_131 (h : Fm T n k pl S) (l : Int32) (d : Nat) : z_ew (d + 3) 131 [.ref 70, .int l] S = some (.inl none, S) := by
  rw [zx_131, mF_130 h, clv_v]
  exact mF_131L h l none (d + 1) 999997
theorem mF_132 (hn : n ≤ 700) (h : Fm T n k pl S) (l : Int32) (d : Nat) : z_ew (d + 4) 132 [.ref 70, .int l] S = some (.inl none, S) := by
  rw [zx_132, zq_132_2, show (1210 : Nat) = 1200 + 10 from rfl, m_isF hn h (by omega) (by omega), cli_i, if_pos (show bI false = 0 by rfl), zq_132_40, mF_131 h, clv_v, m_ismF h, cli_i, if_pos (show bI false = 0 by rfl), m_ismF h, cli_i, if_pos (show bI false = 0 by rfl), zq_132_94, zq_132_96, if_pos (by decide +kernel), zq_132_113]
theorem mF_133L (hn : n ≤ 700) (h : Fm T n k pl S) (l : Int32) (d fu : Nat) : z_R133 (d + 1) (fu + 2) 5 0 [some (.ref 70), some (.int l)] [] S = some (.inl none, S) := by
  rw [zq_133_5, show (1209 : Nat) = 1200 + 9 from rfl, m_isF hn h (by omega) (by omega), cli_i, if_pos (show bI false = 0 by rfl), zq_133_33]
theorem mF_133 (hn : n ≤ 700) (h : Fm T n k pl S) (l : Int32) (d : Nat) : z_ew (d + 5) 133 [.ref 70, .int l] S = some (.inl none, S) := by
  rw [zx_133, mF_132 hn h, clv_v]
  exact mF_133L hn h l (d + 3) 999997
theorem mF_134L (hn : n ≤ 700) (h : Fm T n k pl S) (l : Int32) (d2 : Option Value) (d fu : Nat) : z_R134 (d + 1) (fu + 2) 67 0 [some (.ref 70), some (.int l), d2] [] S = some (.inl none, S) := by
  rw [zq_134_67, show (1208 : Nat) = 1200 + 8 from rfl, m_isF hn h (by omega) (by omega), cli_i, if_pos (show bI false = 0 by rfl), zq_134_95]
end MF
theorem wd_0 {s : Nat} (h : kd T n s ≠ 2) : wd T n s = 0 := Classical.byContradiction (fun c => h (wd_lt c).2)
theorem m_lp130 (hn : n ≤ 700) {D ar f : Nat} {o : Nat → List Int → pR} (hO : mpG T n (D + 2) 129 ar o) (hg : ∀ s c, s ≤ n → pG n f s c (o s c)) : ∀ (M fu s : Nat) (c : List Int) (d2 : Option Value) (S : z_St), n - s ≤ M → 4 * M + 2 ≤ fu → s ≤ n → c.length ≤ s → OKm T n s c S → ∃ S', z_R130 (D + 2) fu 5 0 [some (.ref 70), some (.int (iI (ar : Int))), d2] [] S = some (.inl none, S') ∧ RM T n (pLp T n o 4 M s c) S' ∧ frM S S' := by
  have no : ∀ (fu s : Nat) (c : List Int) (d2 : Option Value) (S : z_St), s ≤ n → c.length ≤ s → OKm T n s c S → ¬ (kd T n s = 42 ∨ kd T n s = 47) → ∃ S', z_R130 (D + 2) (fu + 2) 5 0 [some (.ref 70), some (.int (iI (ar : Int))), d2] [] S = some (.inl none, S') ∧ RM T n (.inl (s, c)) S' ∧ frM S S' := by
    intro fu s c d2 S hs hc h e
    rw [zq_130_5, show nI 42 = iI 42 from rfl, m_ism hn (by decide) h (D + 1), cli_i, decide_eq_false (by omega), if_pos (show bI false = 0 by rfl), show nI 47 = iI 47 from rfl, m_ism hn (by decide) h (D + 1), cli_i, decide_eq_false (by omega), if_pos (show bI false = 0 by rfl), zq_130_57]
    exact ⟨S, rfl, ⟨hs, hc, h⟩, frM.rf S⟩
  intro M
  induction M with
  | zero =>
    intro fu s c d2 S hM hf hs hc h
    obtain ⟨fu, rfl⟩ : ∃ f, fu = f + 2 := ⟨fu - 2, by omega⟩
    have hk : kd T n s = 0 := by
      unfold kd
      rw [if_pos (by omega)]
    exact no fu s c d2 S hs hc h (by omega)
  | succ M ih =>
    intro fu s c d2 S hM hf hs hc h
    obtain ⟨fu, rfl⟩ : ∃ f, fu = f + 4 := ⟨fu - 4, by omega⟩
    unfold pLp
    by_cases e : kd T n s = 42 ∨ kd T n s = 47
    · have hj : jn T n s = ((4 : Nat) : Int) := by
        unfold jn
        rw [if_pos e]
        rfl
      have hx := nx_r (T := T) (jn_lt (T := T) (n := n) (s := s) (by omega))
      have hwd := wd_0 (T := T) (n := n) (s := s) (by omega)
      obtain ⟨S1, b1, b2, b3⟩ := m_nx hn hs h D
      obtain ⟨S2, e1, e2, e3⟩ := hO (.inl (nx T n s, c)) S1 ⟨hx.2, by show c.length ≤ nx T n s; omega, b2⟩
      have e2 : RM T n (o (nx T n s) c) S2 := e2
      rw [if_pos hj]
      have fin : ∀ fu', 4 * M + 2 ≤ fu' → ∃ S', z_R130 (D + 2) (fu' + 1) 39 0 [some (.ref 70), some (.int (iI (ar : Int))), none] [.int (iI (opC T n s))] S = some (.inl none, S') ∧ RM T n (pB (o (nx T n s) c) (fun s' c' => pLp T n o 4 M s' (c' ++ [opC T n s]))) S' ∧ frM S S' := by
        intro fu' hf'
        rw [zq_130_39, b1, clv_v, e1, clv_v]
        cases hr : o (nx T n s) c with
        | inl x =>
          obtain ⟨s1, c1⟩ := x
          rw [hr] at e2
          have hO2 : OKm T n s1 c1 S2 := e2.2.2
          obtain ⟨g1, g2, w, g3, g4, -, -⟩ := hg _ _ hx.2 s1 c1 hr
          have hl1 : c1.length = c.length + w.length := by rw [g3, List.length_append]
          obtain ⟨S3, i1, i2, i3⟩ := mp_lay hO2 (by omega) (opC T n s) (D + 1)
          have hl : (c1 ++ [opC T n s]).length = c1.length + 1 := by rw [List.length_append]; rfl
          obtain ⟨S4, j1, j2, j3⟩ := ih fu' s1 (c1 ++ [opC T n s]) (some (.int (iI (opC T n s)))) S3 (by omega) hf' g2 (by omega) i2
          refine ⟨S4, ?_, j2, b3.tr (e3.tr (i3.tr j3))⟩
          rw [i1, clv_v, j1]
        | inr y =>
          rw [hr] at e2
          obtain ⟨g, rfl⟩ : ∃ g, fu' = g + 2 := ⟨fu' - 2, by omega⟩
          rw [mp_layF e2, clv_v, mF_130L e2]
          exact ⟨S2, rfl, e2, b3.tr e3⟩
      by_cases eA : kd T n s = 42
      · have ho : opC T n s = -22 := by
          unfold opC
          rw [hwd, eA]
          rfl
        rw [zq_130_5, show nI 42 = iI 42 from rfl, m_ism hn (by decide) h (D + 1), cli_i, decide_eq_true eA, if_neg (show ¬ bI true = 0 by decide +kernel), zq_130_23, show nI 42 = iI 42 from rfl, m_ism hn (by decide) h (D + 1), cli_i, decide_eq_true eA, if_neg (show ¬ bI true = 0 by decide +kernel), show (-nI 22 : Int32) = iI (opC T n s) by rw [ho]; rfl]
        exact fin (fu + 1) (by omega)
      · have eB : kd T n s = 47 := by omega
        have ho : opC T n s = -23 := by
          unfold opC
          rw [hwd, eB]
          rfl
        rw [zq_130_5, show nI 42 = iI 42 from rfl, m_ism hn (by decide) h (D + 1), cli_i, decide_eq_false eA, if_pos (show bI false = 0 by rfl), show nI 47 = iI 47 from rfl, m_ism hn (by decide) h (D + 1), cli_i, decide_eq_true eB, if_neg (show ¬ bI true = 0 by decide +kernel), zq_130_23, show nI 42 = iI 42 from rfl, m_ism hn (by decide) h (D + 1), cli_i, decide_eq_false eA, if_pos (show bI false = 0 by rfl), zq_130_37, show (-nI 23 : Int32) = iI (opC T n s) by rw [ho]; rfl]
        exact fin fu (by omega)
    · rw [if_neg (by
        unfold jn
        repeat' split
        all_goals omega)]
      exact no (fu + 2) s c d2 S hs hc h e
theorem m_lv130 (hn : n ≤ 700) {D ar f : Nat} {o : Nat → List Int → pR} (hO : mpG T n (D + 2) 129 ar o) (hg : ∀ s c, s ≤ n → pG n f s c (o s c)) : mpG T n (D + 3) 130 ar (pV T n o 4) := by
  intro r S h
  rw [zx_130]
  obtain ⟨S2, e1, e2, e3⟩ := hO _ S h
  rw [e1, clv_v]
  cases r with
  | inl x =>
    obtain ⟨s, c⟩ := x
    have hs : s ≤ n := h.1
    have hc : c.length ≤ s := h.2.1
    have e2 : RM T n (o s c) S2 := e2
    rw [show pB (Sum.inl (s, c)) (pV T n o 4) = pV T n o 4 s c from rfl]
    unfold pV
    rw [if_neg (by decide)]
    cases hr : o s c with
    | inl y =>
      obtain ⟨s2, c2⟩ := y
      rw [hr] at e2
      have hs2 : s2 ≤ n := e2.1
      have hc2 : c2.length ≤ s2 := e2.2.1
      obtain ⟨S3, f1, f2, f3⟩ := m_lp130 hn hO hg 700 999999 s2 c2 none S2 (by omega) (by omega) hs2 hc2 e2.2.2
      exact ⟨S3, f1, f2, e3.tr f3⟩
    | inr y =>
      rw [hr] at e2
      refine ⟨S2, ?_, e2, e3⟩
      exact mF_130L e2 (iI (ar : Int)) none (D + 1) 999997
  | inr e =>
    refine ⟨S2, ?_, e2, e3⟩
    exact mF_130L (show Fm T n e.1 e.2 S2 from e2) (iI (ar : Int)) none (D + 1) 999997
theorem m_lp131 (hn : n ≤ 700) {D ar f : Nat} {o : Nat → List Int → pR} (hO : mpG T n (D + 2) 130 ar o) (hg : ∀ s c, s ≤ n → pG n f s c (o s c)) : ∀ (M fu s : Nat) (c : List Int) (d2 : Option Value) (S : z_St), n - s ≤ M → 4 * M + 2 ≤ fu → s ≤ n → c.length ≤ s → OKm T n s c S → ∃ S', z_R131 (D + 2) fu 5 0 [some (.ref 70), some (.int (iI (ar : Int))), d2] [] S = some (.inl none, S') ∧ RM T n (pLp T n o 3 M s c) S' ∧ frM S S' := by
  have no : ∀ (fu s : Nat) (c : List Int) (d2 : Option Value) (S : z_St), s ≤ n → c.length ≤ s → OKm T n s c S → ¬ (kd T n s = 43 ∨ kd T n s = 45) → ∃ S', z_R131 (D + 2) (fu + 2) 5 0 [some (.ref 70), some (.int (iI (ar : Int))), d2] [] S = some (.inl none, S') ∧ RM T n (.inl (s, c)) S' ∧ frM S S' := by
    intro fu s c d2 S hs hc h e
    rw [zq_131_5, show nI 43 = iI 43 from rfl, m_ism hn (by decide) h (D + 1), cli_i, decide_eq_false (by omega), if_pos (show bI false = 0 by rfl), show nI 45 = iI 45 from rfl, m_ism hn (by decide) h (D + 1), cli_i, decide_eq_false (by omega), if_pos (show bI false = 0 by rfl), zq_131_57]
    exact ⟨S, rfl, ⟨hs, hc, h⟩, frM.rf S⟩
  intro M
  induction M with
  | zero =>
    intro fu s c d2 S hM hf hs hc h
    obtain ⟨fu, rfl⟩ : ∃ f, fu = f + 2 := ⟨fu - 2, by omega⟩
    have hk : kd T n s = 0 := by
      unfold kd
      rw [if_pos (by omega)]
    exact no fu s c d2 S hs hc h (by omega)
  | succ M ih =>
    intro fu s c d2 S hM hf hs hc h
    obtain ⟨fu, rfl⟩ : ∃ f, fu = f + 4 := ⟨fu - 4, by omega⟩
    unfold pLp
    by_cases e : kd T n s = 43 ∨ kd T n s = 45
    · have hj : jn T n s = ((3 : Nat) : Int) := by
        unfold jn
        rw [if_neg (by omega), if_pos e]
        rfl
      have hx := nx_r (T := T) (jn_lt (T := T) (n := n) (s := s) (by omega))
      have hwd := wd_0 (T := T) (n := n) (s := s) (by omega)
      obtain ⟨S1, b1, b2, b3⟩ := m_nx hn hs h D
      obtain ⟨S2, e1, e2, e3⟩ := hO (.inl (nx T n s, c)) S1 ⟨hx.2, by show c.length ≤ nx T n s; omega, b2⟩
      have e2 : RM T n (o (nx T n s) c) S2 := e2
      rw [if_pos hj]
      have fin : ∀ fu', 4 * M + 2 ≤ fu' → ∃ S', z_R131 (D + 2) (fu' + 1) 39 0 [some (.ref 70), some (.int (iI (ar : Int))), none] [.int (iI (opC T n s))] S = some (.inl none, S') ∧ RM T n (pB (o (nx T n s) c) (fun s' c' => pLp T n o 3 M s' (c' ++ [opC T n s]))) S' ∧ frM S S' := by
        intro fu' hf'
        rw [zq_131_39, b1, clv_v, e1, clv_v]
        cases hr : o (nx T n s) c with
        | inl x =>
          obtain ⟨s1, c1⟩ := x
          rw [hr] at e2
          have hO2 : OKm T n s1 c1 S2 := e2.2.2
          obtain ⟨g1, g2, w, g3, g4, -, -⟩ := hg _ _ hx.2 s1 c1 hr
          have hl1 : c1.length = c.length + w.length := by rw [g3, List.length_append]
          obtain ⟨S3, i1, i2, i3⟩ := mp_lay hO2 (by omega) (opC T n s) (D + 1)
          have hl : (c1 ++ [opC T n s]).length = c1.length + 1 := by rw [List.length_append]; rfl
          obtain ⟨S4, j1, j2, j3⟩ := ih fu' s1 (c1 ++ [opC T n s]) (some (.int (iI (opC T n s)))) S3 (by omega) hf' g2 (by omega) i2
          refine ⟨S4, ?_, j2, b3.tr (e3.tr (i3.tr j3))⟩
          rw [i1, clv_v, j1]
        | inr y =>
          rw [hr] at e2
          obtain ⟨g, rfl⟩ : ∃ g, fu' = g + 2 := ⟨fu' - 2, by omega⟩
          rw [mp_layF e2, clv_v, mF_131L e2]
          exact ⟨S2, rfl, e2, b3.tr e3⟩
      by_cases eA : kd T n s = 43
      · have ho : opC T n s = -20 := by
          unfold opC
          rw [hwd, eA]
          rfl
        rw [zq_131_5, show nI 43 = iI 43 from rfl, m_ism hn (by decide) h (D + 1), cli_i, decide_eq_true eA, if_neg (show ¬ bI true = 0 by decide +kernel), zq_131_23, show nI 43 = iI 43 from rfl, m_ism hn (by decide) h (D + 1), cli_i, decide_eq_true eA, if_neg (show ¬ bI true = 0 by decide +kernel), show (-nI 20 : Int32) = iI (opC T n s) by rw [ho]; rfl]
        exact fin (fu + 1) (by omega)
      · have eB : kd T n s = 45 := by omega
        have ho : opC T n s = -21 := by
          unfold opC
          rw [hwd, eB]
          rfl
        rw [zq_131_5, show nI 43 = iI 43 from rfl, m_ism hn (by decide) h (D + 1), cli_i, decide_eq_false eA, if_pos (show bI false = 0 by rfl), show nI 45 = iI 45 from rfl, m_ism hn (by decide) h (D + 1), cli_i, decide_eq_true eB, if_neg (show ¬ bI true = 0 by decide +kernel), zq_131_23, show nI 43 = iI 43 from rfl, m_ism hn (by decide) h (D + 1), cli_i, decide_eq_false eA, if_pos (show bI false = 0 by rfl), zq_131_37, show (-nI 21 : Int32) = iI (opC T n s) by rw [ho]; rfl]
        exact fin fu (by omega)
    · rw [if_neg (by
        unfold jn
        repeat' split
        all_goals omega)]
      exact no (fu + 2) s c d2 S hs hc h e
theorem m_lv131 (hn : n ≤ 700) {D ar f : Nat} {o : Nat → List Int → pR} (hO : mpG T n (D + 2) 130 ar o) (hg : ∀ s c, s ≤ n → pG n f s c (o s c)) : mpG T n (D + 3) 131 ar (pV T n o 3) := by
  intro r S h
  rw [zx_131]
  obtain ⟨S2, e1, e2, e3⟩ := hO _ S h
  rw [e1, clv_v]
  cases r with
  | inl x =>
    obtain ⟨s, c⟩ := x
    have hs : s ≤ n := h.1
    have hc : c.length ≤ s := h.2.1
    have e2 : RM T n (o s c) S2 := e2
    rw [show pB (Sum.inl (s, c)) (pV T n o 3) = pV T n o 3 s c from rfl]
    unfold pV
    rw [if_neg (by decide)]
    cases hr : o s c with
    | inl y =>
      obtain ⟨s2, c2⟩ := y
      rw [hr] at e2
      have hs2 : s2 ≤ n := e2.1
      have hc2 : c2.length ≤ s2 := e2.2.1
      obtain ⟨S3, f1, f2, f3⟩ := m_lp131 hn hO hg 700 999999 s2 c2 none S2 (by omega) (by omega) hs2 hc2 e2.2.2
      exact ⟨S3, f1, f2, e3.tr f3⟩
    | inr y =>
      rw [hr] at e2
      refine ⟨S2, ?_, e2, e3⟩
      exact mF_131L e2 (iI (ar : Int)) none (D + 1) 999997
  | inr e =>
    refine ⟨S2, ?_, e2, e3⟩
    exact mF_131L (show Fm T n e.1 e.2 S2 from e2) (iI (ar : Int)) none (D + 1) 999997
theorem m_lp133 (hn : n ≤ 700) {D ar f : Nat} {o : Nat → List Int → pR} (hO : mpG T n (D + 2) 132 ar o) (hg : ∀ s c, s ≤ n → pG n f s c (o s c)) : ∀ (M fu s : Nat) (c : List Int) (S : z_St), n - s ≤ M → M + 2 ≤ fu → s ≤ n → c.length ≤ s → OKm T n s c S → ∃ S', z_R133 (D + 2) fu 5 0 [some (.ref 70), some (.int (iI (ar : Int)))] [] S = some (.inl none, S') ∧ RM T n (pLp T n o 1 M s c) S' ∧ frM S S' := by
  have no : ∀ (fu s : Nat) (c : List Int) (S : z_St), s ≤ n → c.length ≤ s → OKm T n s c S → wd T n s ≠ 9 → ∃ S', z_R133 (D + 2) (fu + 2) 5 0 [some (.ref 70), some (.int (iI (ar : Int)))] [] S = some (.inl none, S') ∧ RM T n (.inl (s, c)) S' ∧ frM S S' := by
    intro fu s c S hs hc h e
    rw [zq_133_5, show (1209 : Nat) = 1200 + 9 from rfl, m_isO hn hs h (by omega) (by omega) (D + 1), cli_i, decide_eq_false e, if_pos (show bI false = 0 by rfl), zq_133_33]
    exact ⟨S, rfl, ⟨hs, hc, h⟩, frM.rf S⟩
  intro M
  induction M with
  | zero =>
    intro fu s c S hM hf hs hc h
    obtain ⟨fu, rfl⟩ : ∃ f, fu = f + 2 := ⟨fu - 2, by omega⟩
    have hk : wd T n s = 0 := by
      unfold wd
      rw [if_pos (by omega)]
    exact no fu s c S hs hc h (by omega)
  | succ M ih =>
    intro fu s c S hM hf hs hc h
    obtain ⟨fu, rfl⟩ : ∃ f, fu = f + 3 := ⟨fu - 3, by omega⟩
    unfold pLp
    by_cases e : wd T n s = 9
    · have hk2 := (wd_lt (T := T) (n := n) (s := s) (by omega)).2
      have hj : jn T n s = ((1 : Nat) : Int) := by
        unfold jn
        rw [if_neg (by omega), if_neg (by omega), if_neg (by omega), if_pos e]
        rfl
      have hx := nx_r (T := T) (jn_lt (T := T) (n := n) (s := s) (by omega))
      obtain ⟨S1, b1, b2, b3⟩ := m_nx hn hs h D
      obtain ⟨S2, e1, e2, e3⟩ := hO (.inl (nx T n s, c)) S1 ⟨hx.2, by show c.length ≤ nx T n s; omega, b2⟩
      have e2 : RM T n (o (nx T n s) c) S2 := e2
      have ho : opC T n s = -26 := by
        unfold opC
        rw [e]
        rfl
      rw [if_pos hj, zq_133_5, show (1209 : Nat) = 1200 + 9 from rfl, m_isO hn hs h (by omega) (by omega) (D + 1), cli_i, decide_eq_true e, if_neg (show ¬ bI true = 0 by decide +kernel), b1, clv_v, e1, clv_v, show (-nI 26 : Int32) = iI (opC T n s) by rw [ho]; rfl]
      cases hr : o (nx T n s) c with
      | inl x =>
        obtain ⟨s1, c1⟩ := x
        rw [hr] at e2
        have hO2 : OKm T n s1 c1 S2 := e2.2.2
        obtain ⟨g1, g2, w, g3, g4, -, -⟩ := hg _ _ hx.2 s1 c1 hr
        have hl1 : c1.length = c.length + w.length := by rw [g3, List.length_append]
        obtain ⟨S3, i1, i2, i3⟩ := mp_lay hO2 (by omega) (opC T n s) (D + 1)
        have hl : (c1 ++ [opC T n s]).length = c1.length + 1 := by rw [List.length_append]; rfl
        obtain ⟨S4, j1, j2, j3⟩ := ih (fu + 2) s1 (c1 ++ [opC T n s]) S3 (by omega) (by omega) g2 (by omega) i2
        refine ⟨S4, ?_, j2, b3.tr (e3.tr (i3.tr j3))⟩
        rw [i1, clv_v, j1]
      | inr y =>
        rw [hr] at e2
        rw [mp_layF e2, clv_v, mF_133L hn e2]
        exact ⟨S2, rfl, e2, b3.tr e3⟩
    · rw [if_neg (by
        unfold jn
        repeat' split
        all_goals omega)]
      exact no (fu + 1) s c S hs hc h e
theorem m_lp134 (hn : n ≤ 700) {D ar f : Nat} {o : Nat → List Int → pR} (hO : mpG T n (D + 2) 133 ar o) (hg : ∀ s c, s ≤ n → pG n f s c (o s c)) : ∀ (M fu s : Nat) (c : List Int) (d2 : Option Value) (S : z_St), n - s ≤ M → M + 2 ≤ fu → s ≤ n → c.length ≤ s → OKm T n s c S → ∃ S', z_R134 (D + 2) fu 67 0 [some (.ref 70), some (.int (iI (ar : Int))), d2] [] S = some (.inl none, S') ∧ RM T n (pLp T n o 0 M s c) S' ∧ frM S S' := by
  have no : ∀ (fu s : Nat) (c : List Int) (d2 : Option Value) (S : z_St), s ≤ n → c.length ≤ s → OKm T n s c S → wd T n s ≠ 8 → ∃ S', z_R134 (D + 2) (fu + 2) 67 0 [some (.ref 70), some (.int (iI (ar : Int))), d2] [] S = some (.inl none, S') ∧ RM T n (.inl (s, c)) S' ∧ frM S S' := by
    intro fu s c d2 S hs hc h e
    rw [zq_134_67, show (1208 : Nat) = 1200 + 8 from rfl, m_isO hn hs h (by omega) (by omega) (D + 1), cli_i, decide_eq_false e, if_pos (show bI false = 0 by rfl), zq_134_95]
    exact ⟨S, rfl, ⟨hs, hc, h⟩, frM.rf S⟩
  intro M
  induction M with
  | zero =>
    intro fu s c d2 S hM hf hs hc h
    obtain ⟨fu, rfl⟩ : ∃ f, fu = f + 2 := ⟨fu - 2, by omega⟩
    have hk : wd T n s = 0 := by
      unfold wd
      rw [if_pos (by omega)]
    exact no fu s c d2 S hs hc h (by omega)
  | succ M ih =>
    intro fu s c d2 S hM hf hs hc h
    obtain ⟨fu, rfl⟩ : ∃ f, fu = f + 3 := ⟨fu - 3, by omega⟩
    unfold pLp
    by_cases e : wd T n s = 8
    · have hk2 := (wd_lt (T := T) (n := n) (s := s) (by omega)).2
      have hj : jn T n s = ((0 : Nat) : Int) := by
        unfold jn
        rw [if_neg (by omega), if_neg (by omega), if_neg (by omega), if_neg (by omega), if_pos e]
        rfl
      have hx := nx_r (T := T) (jn_lt (T := T) (n := n) (s := s) (by omega))
      obtain ⟨S1, b1, b2, b3⟩ := m_nx hn hs h D
      obtain ⟨S2, e1, e2, e3⟩ := hO (.inl (nx T n s, c)) S1 ⟨hx.2, by show c.length ≤ nx T n s; omega, b2⟩
      have e2 : RM T n (o (nx T n s) c) S2 := e2
      have ho : opC T n s = -27 := by
        unfold opC
        rw [e]
        rfl
      rw [if_pos hj, zq_134_67, show (1208 : Nat) = 1200 + 8 from rfl, m_isO hn hs h (by omega) (by omega) (D + 1), cli_i, decide_eq_true e, if_neg (show ¬ bI true = 0 by decide +kernel), b1, clv_v, e1, clv_v, show (-nI 27 : Int32) = iI (opC T n s) by rw [ho]; rfl]
      cases hr : o (nx T n s) c with
      | inl x =>
        obtain ⟨s1, c1⟩ := x
        rw [hr] at e2
        have hO2 : OKm T n s1 c1 S2 := e2.2.2
        obtain ⟨g1, g2, w, g3, g4, -, -⟩ := hg _ _ hx.2 s1 c1 hr
        have hl1 : c1.length = c.length + w.length := by rw [g3, List.length_append]
        obtain ⟨S3, i1, i2, i3⟩ := mp_lay hO2 (by omega) (opC T n s) (D + 1)
        have hl : (c1 ++ [opC T n s]).length = c1.length + 1 := by rw [List.length_append]; rfl
        obtain ⟨S4, j1, j2, j3⟩ := ih (fu + 2) s1 (c1 ++ [opC T n s]) none S3 (by omega) (by omega) g2 (by omega) i2
        refine ⟨S4, ?_, j2, b3.tr (e3.tr (i3.tr j3))⟩
        rw [i1, clv_v, j1]
      | inr y =>
        rw [hr] at e2
        rw [mp_layF e2, clv_v, mF_134L hn e2]
        exact ⟨S2, rfl, e2, b3.tr e3⟩
    · rw [if_neg (by
        unfold jn
        repeat' split
        all_goals omega)]
      exact no (fu + 1) s c d2 S hs hc h e
theorem m_lv133 (hn : n ≤ 700) {D ar f : Nat} {o : Nat → List Int → pR} (hO : mpG T n (D + 2) 132 ar o) (hg : ∀ s c, s ≤ n → pG n f s c (o s c)) : mpG T n (D + 3) 133 ar (pV T n o 1) := by
  intro r S h
  rw [zx_133]
  obtain ⟨S2, e1, e2, e3⟩ := hO _ S h
  rw [e1, clv_v]
  cases r with
  | inl x =>
    obtain ⟨s, c⟩ := x
    have e2 : RM T n (o s c) S2 := e2
    rw [show pB (Sum.inl (s, c)) (pV T n o 1) = pV T n o 1 s c from rfl]
    unfold pV
    rw [if_neg (by decide)]
    cases hr : o s c with
    | inl y =>
      obtain ⟨s2, c2⟩ := y
      rw [hr] at e2
      have hs2 : s2 ≤ n := e2.1
      have hc2 : c2.length ≤ s2 := e2.2.1
      obtain ⟨S3, f1, f2, f3⟩ := m_lp133 hn hO hg 700 999999 s2 c2 S2 (by omega) (by omega) hs2 hc2 e2.2.2
      exact ⟨S3, f1, f2, e3.tr f3⟩
    | inr y =>
      rw [hr] at e2
      refine ⟨S2, ?_, e2, e3⟩
      exact mF_133L hn e2 (iI (ar : Int)) (D + 1) 999997
  | inr e =>
    refine ⟨S2, ?_, e2, e3⟩
    exact mF_133L hn (show Fm T n e.1 e.2 S2 from e2) (iI (ar : Int)) (D + 1) 999997
end ML
