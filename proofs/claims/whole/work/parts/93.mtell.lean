/-! one way told: the model -/
def lpg (A : aS) (g h : Nat → Nat) (r : Nat) : Nat → Int
  | 0 => 1
  | i + 1 => if h i = r then A 35 (g i) else lpg A g h r i
theorem lpg_s {A : aS} {g h : Nat → Nat} {r i : Nat} : lpg A g h r (i + 1) = if h i = r then A 35 (g i) else lpg A g h r i := rfl
def bB (h : Nat) : Int32 := nI 1 <<< (iI (h : Int) &&& 31)
def frW (S S' : z_St) : Prop := (∀ a i, a ≠ 103 → a ≠ 104 → a ≠ 105 → a ≠ 106 → (a ≠ 70 ∨ i ≠ 56) → S'.1 a i = S.1 a i) ∧ S'.2 = S.2
theorem frW.tr {S S1 S2 : z_St} (h : frW S S1) (h2 : frW S1 S2) : frW S S2 := ⟨fun a i q1 q2 q3 q4 q5 => (h2.1 a i q1 q2 q3 q4 q5).trans (h.1 a i q1 q2 q3 q4 q5), h2.2.trans h.2⟩
section TEL
variable {A : aS} {S : z_St}
theorem MI.fW {S' : z_St} (h : MI A S) (hw : wf A) (hf : frW S S') : MI A S' := h.sc hw (fun i hi => hf.1 70 i (by decide) (by decide) (by decide) (by decide) (Or.inr (scf_ne hi).2.1)) (fun a h7 ha i => hf.1 a i (scr_ne ha).2.2.2.2.1 (scr_ne ha).2.2.2.2.2.1 (scr_ne ha).2.2.2.2.2.2.1 (scr_ne ha).2.2.2.2.2.2.2.1 (Or.inl h7))
theorem m_t1 {n0 : Nat} {g h : Nat → Nat} (hn0 : n0 < 7) (hg24 : ∀ j, j < n0 → g j < 24) (inj : ∀ i j, i < n0 → j < n0 → g i = g j → i = j) (d z : Nat) : ∀ (k i n : Nat) (S : z_St) (x2 x3 : Option Value), i + k = n0 → k + 1 ≤ n → S.1 70 55 = iI (n0 : Int) → (∀ j, j < n0 → S.1 101 j = iI (g j : Int)) → (∀ j, j < n0 → S.1 102 j = iI (h j : Int)) → ∃ S' n', n ≤ n' + k + 1 ∧ z_R166 d n 2 z [some (.ref 70), some (.int (iI (i : Int))), x2, x3] [] S = z_R166 d n' 60 z [some (.ref 70), some (.int (iI (n0 : Int))), none, none] [] S' ∧ (∀ j, j < n0 → S'.1 103 (g j) = (if i ≤ j then S.1 103 (g j) ||| bB (h j) else S.1 103 (g j)) ∧ S'.1 104 (g j) = (if i ≤ j then S.1 104 (g j) &&& bB (h j) else S.1 104 (g j))) ∧ (∀ a x, a ≠ 103 → a ≠ 104 → S'.1 a x = S.1 a x) ∧ S'.2 = S.2 := by
  intro k
  induction k with
  | zero =>
    intro i n S x2 x3 hi hn h55 hg hh
    obtain ⟨n, rfl⟩ : ∃ m, n = m + 1 := ⟨n - 1, by omega⟩
    have e : i = n0 := by omega
    subst e
    refine ⟨S, n, by omega, ?_, fun j hj => ?_, fun _ _ _ _ => rfl, rfl⟩
    · rw [zq_166_2, h55, if_pos (by rw [iI_le (by omega) (by omega) (by omega) (by omega)]; omega)]
    · rw [if_neg (by omega), if_neg (by omega)]
      exact ⟨rfl, rfl⟩
  | succ k ih =>
    intro i n S x2 x3 hi hn h55 hg hh
    obtain ⟨n, rfl⟩ : ∃ m, n = m + 1 := ⟨n - 1, by omega⟩
    have e2 : (i : Int) + ((1 : Nat) : Int) = ((i + 1 : Nat) : Int) := by omega
    have g24 := hg24 i (by omega)
    rw [zq_166_2, h55, if_neg (by rw [iI_le (by omega) (by omega) (by omega) (by omega)]; omega), ixN (show i < 6 by omega) (by decide), cond_true, tN (show i < 2147483648 by omega), hg i (by omega), ixN g24 (by decide), cond_true, cond_true, cond_true, cond_true, cond_true, cond_true, cond_true, tN (show g i < 2147483648 by omega), hh i (by omega), iI_n, iI_add, e2]
    have w3 : ∀ a x, a ≠ 103 → a ≠ 104 → z_w1 (z_w1 S.1 103 (g i) (S.1 103 (g i) ||| (iI ((1 : Nat) : Int) <<< (iI (h i : Int) &&& 31)))) 104 (g i) (S.1 104 (g i) &&& (iI ((1 : Nat) : Int) <<< (iI (h i : Int) &&& 31))) a x = S.1 a x := by
      intro a x h1 h2
      rw [z_w1_r, if_neg (by omega), z_w1_r, if_neg (by omega)]
    obtain ⟨S', n', a1, a2, a3, a4, a5⟩ := ih (i + 1) n (z_w1 (z_w1 S.1 103 (g i) (S.1 103 (g i) ||| (iI ((1 : Nat) : Int) <<< (iI (h i : Int) &&& 31)))) 104 (g i) (S.1 104 (g i) &&& (iI ((1 : Nat) : Int) <<< (iI (h i : Int) &&& 31))), S.2) none none (by omega) (by omega) ((w3 70 55 (by decide) (by decide)).trans h55) (fun j hj => (w3 101 j (by decide) (by decide)).trans (hg j hj)) (fun j hj => (w3 102 j (by decide) (by decide)).trans (hh j hj))
    refine ⟨S', n', by omega, a2, fun j hj => ?_, fun a x h1 h2 => (a4 a x h1 h2).trans (w3 a x h1 h2), a5⟩
    have p1 : z_w1 (z_w1 S.1 103 (g i) (S.1 103 (g i) ||| (iI ((1 : Nat) : Int) <<< (iI (h i : Int) &&& 31)))) 104 (g i) (S.1 104 (g i) &&& (iI ((1 : Nat) : Int) <<< (iI (h i : Int) &&& 31))) 103 (g i) = S.1 103 (g i) ||| bB (h i) := by
      rw [z_w1_r, if_neg (show ¬ ((103 : Nat) = 104 ∧ g i = g i) by omega), z_w1_r, if_pos ⟨rfl, rfl⟩]
      rfl
    have p2 : z_w1 (z_w1 S.1 103 (g i) (S.1 103 (g i) ||| (iI ((1 : Nat) : Int) <<< (iI (h i : Int) &&& 31)))) 104 (g i) (S.1 104 (g i) &&& (iI ((1 : Nat) : Int) <<< (iI (h i : Int) &&& 31))) 104 (g i) = S.1 104 (g i) &&& bB (h i) := by
      rw [z_w1_r, if_pos ⟨rfl, rfl⟩]
      rfl
    have p3 : ∀ x, x ≠ g i → z_w1 (z_w1 S.1 103 (g i) (S.1 103 (g i) ||| (iI ((1 : Nat) : Int) <<< (iI (h i : Int) &&& 31)))) 104 (g i) (S.1 104 (g i) &&& (iI ((1 : Nat) : Int) <<< (iI (h i : Int) &&& 31))) 103 x = S.1 103 x := by
      intro x hx
      rw [z_w1_r, if_neg (fun z => hx z.2), z_w1_r, if_neg (fun z => hx z.2)]
    have p4 : ∀ x, x ≠ g i → z_w1 (z_w1 S.1 103 (g i) (S.1 103 (g i) ||| (iI ((1 : Nat) : Int) <<< (iI (h i : Int) &&& 31)))) 104 (g i) (S.1 104 (g i) &&& (iI ((1 : Nat) : Int) <<< (iI (h i : Int) &&& 31))) 104 x = S.1 104 x := by
      intro x hx
      rw [z_w1_r, if_neg (fun z => hx z.2), z_w1_r, if_neg (fun z => hx z.2)]
    have a3 := a3 j hj
    dsimp only at a3
    rw [a3.1, a3.2]
    by_cases e : j = i
    · subst e
      rw [if_neg (show ¬ j + 1 ≤ j by omega), if_neg (show ¬ j + 1 ≤ j by omega), if_pos (Nat.le_refl _), if_pos (Nat.le_refl _)]
      exact ⟨p1, p2⟩
    · have e3 : g j ≠ g i := fun z => e (inj j i hj (by omega) z)
      rw [p3 _ e3, p4 _ e3]
      by_cases q : i + 1 ≤ j
      · rw [if_pos q, if_pos q, if_pos (by omega), if_pos (by omega)]
        exact ⟨rfl, rfl⟩
      · rw [if_neg q, if_neg q, if_neg (by omega), if_neg (by omega)]
        exact ⟨rfl, rfl⟩
theorem m_t2 {n0 r : Nat} {g h : Nat → Nat} (hw : wf A) (hM : MI A S) (hr : r < 8) (hn0 : n0 < 7) (h55 : S.1 70 55 = iI (n0 : Int)) (hg24 : ∀ j, j < n0 → (g j : Int) < A 6 0) (hg : ∀ j, j < n0 → S.1 101 j = iI (g j : Int)) (hh : ∀ j, j < n0 → S.1 102 j = iI (h j : Int) ∧ h j < 8) (d z : Nat) : ∀ (k i n : Nat), i + k = n0 → 3 * k + 1 ≤ n → ∃ n', n ≤ n' + 3 * k + 1 ∧ z_R166 d n 74 z [some (.ref 70), some (.int (iI (r : Int))), some (.int (iI (lpg A g h r i))), some (.int (iI (i : Int)))] [] S = z_R166 d n' 114 z [some (.ref 70), some (.int (iI (r : Int))), some (.int (iI (lpg A g h r n0))), some (.int (iI (n0 : Int)))] [] S := by
  have hk := hw.k
  intro k
  induction k with
  | zero =>
    intro i n hi hn
    obtain ⟨n, rfl⟩ : ∃ m, n = m + 1 := ⟨n - 1, by omega⟩
    have e : i = n0 := by omega
    subst e
    refine ⟨n, by omega, ?_⟩
    rw [zq_166_74, h55, if_pos (by rw [iI_le (by omega) (by omega) (by omega) (by omega)]; omega)]
  | succ k ih =>
    intro i n hi hn
    obtain ⟨n, rfl⟩ : ∃ m, n = m + 3 := ⟨n - 3, by omega⟩
    have e2 : (i : Int) + ((1 : Nat) : Int) = ((i + 1 : Nat) : Int) := by omega
    have g24 := hg24 i (by omega)
    have h2 := hh i (by omega)
    rw [zq_166_74, h55, if_neg (by rw [iI_le (by omega) (by omega) (by omega) (by omega)]; omega), ixN (show i < 6 by omega) (by decide), cond_true, tN (show i < 2147483648 by omega), hg i (by omega), h2.1, cond_true, ixN (show g i < 24 by omega) (by decide), cond_true, tN (show g i < 2147483648 by omega), m_35 hM g24]
    by_cases q : h i = r
    · obtain ⟨n', a1, a2⟩ := ih (i + 1) (n + 1) (by omega) (by omega)
      refine ⟨n', by omega, ?_⟩
      rw [if_pos (by rw [q]), zq_166_107, iI_n, iI_add, e2]
      rw [lpg_s, if_pos q] at a2
      exact a2
    · obtain ⟨n', a1, a2⟩ := ih (i + 1) n (by omega) (by omega)
      refine ⟨n', by omega, ?_⟩
      rw [if_neg (by rw [iI_eq (by omega) (by omega) (by omega) (by omega)]; omega), zq_166_106, zq_166_107, iI_n, iI_add, e2]
      rw [lpg_s, if_neg q] at a2
      exact a2
theorem lpg_r {g h : Nat → Nat} {r n0 : Nat} (hw : wf A) (hg24 : ∀ j, j < n0 → (g j : Int) < A 6 0) : ∀ i, i ≤ n0 → 1 ≤ lpg A g h r i ∧ lpg A g h r i ≤ 401
  | 0, _ => ⟨by show (1 : Int) ≤ 1; decide, by show (1 : Int) ≤ 401; decide⟩
  | i + 1, hi => by
    rw [lpg_s]
    have := hw.lr (hg24 i (by omega))
    have ih := lpg_r (h := h) (r := r) hw hg24 i (by omega)
    split <;> omega
theorem m_t3 {n0 R : Nat} {g h : Nat → Nat} {w : Int32} {lo hi : Nat → Int} (hw : wf A) (hR : A 3 0 = R) (hn0 : n0 < 7) (hg24 : ∀ j, j < n0 → (g j : Int) < A 6 0) (d z : Nat) : ∀ (k r n : Nat) (S : z_St) (x2 x3 : Option Value), r + k = R → 30 * k + 3 ≤ n → MI A S → S.1 70 55 = iI (n0 : Int) → (∀ j, j < n0 → S.1 101 j = iI (g j : Int)) → (∀ j, j < n0 → S.1 102 j = iI (h j : Int) ∧ h j < 8) → S.1 70 56 = w → (w ≠ 0 → ∀ r', r ≤ r' → r' < R → (S.1 105 r' = iI (lo r') ∧ S.1 106 r' = iI (hi r')) ∧ (1 ≤ lo r' ∧ lo r' ≤ 401) ∧ 1 ≤ hi r' ∧ hi r' ≤ 401) → ∃ S', z_R166 (d + 1) n 62 z [some (.ref 70), some (.int (iI (r : Int))), x2, x3] [] S = some (.inl none, S') ∧ (∀ r', r ≤ r' → r' < R → S'.1 105 r' = iI (if w = 0 then lpg A g h r' n0 else mnI (lo r') (lpg A g h r' n0)) ∧ S'.1 106 r' = iI (if w = 0 then lpg A g h r' n0 else mxI (hi r') (lpg A g h r' n0))) ∧ S'.1 70 56 = w + nI 1 ∧ (∀ r', r' < r → S'.1 105 r' = S.1 105 r' ∧ S'.1 106 r' = S.1 106 r') ∧ (∀ a x, a ≠ 105 → a ≠ 106 → (a ≠ 70 ∨ x ≠ 56) → S'.1 a x = S.1 a x) ∧ S'.2 = S.2 := by
  have hr2 := hw.r
  intro k
  induction k with
  | zero =>
    intro r n S x2 x3 hk hn hM h55 hg hh h56 hv
    obtain ⟨n, rfl⟩ : ∃ m, n = m + 2 := ⟨n - 2, by omega⟩
    have e : r = R := by omega
    subst e
    refine ⟨(z_w1 S.1 70 56 (S.1 70 56 + nI 1), S.2), ?_, fun r' h1 h2 => by omega, ?_, fun r' _ => ?_, fun a x h1 h2 h3 => ?_, rfl⟩
    · rw [zq_166_62, m_3 hM, hR, if_pos (by rw [iI_le (by omega) (by omega) (by omega) (by omega)]; omega), zq_166_174]
    · dsimp only
      rw [z_w1_r, if_pos ⟨rfl, rfl⟩, h56]
    · dsimp only
      rw [z_w1_r, if_neg (by omega), z_w1_r, if_neg (by omega)]
      exact ⟨rfl, rfl⟩
    · dsimp only
      rw [z_w1_r, if_neg (by omega)]
  | succ k ih =>
    intro r n S x2 x3 hk hn hM h55 hg hh h56 hv
    obtain ⟨n, rfl⟩ : ∃ m, n = m + 1 := ⟨n - 1, by omega⟩
    have e2 : (r : Int) + ((1 : Nat) : Int) = ((r + 1 : Nat) : Int) := by omega
    obtain ⟨n1, b1, b2⟩ := m_t2 (h := h) hw hM (show r < 8 by omega) hn0 h55 hg24 hg hh (d + 1) z n0 0 n (by omega) (by omega)
    have hlp := lpg_r (h := h) (r := r) hw hg24 n0 (Nat.le_refl _)
    obtain ⟨n1, rfl⟩ : ∃ m, n1 = m + 5 := ⟨n1 - 5, by omega⟩
    have step : ∃ n', n1 ≤ n' ∧ z_R166 (d + 1) (n + 1) 62 z [some (.ref 70), some (.int (iI (r : Int))), x2, x3] [] S = z_R166 (d + 1) n' 62 z [some (.ref 70), some (.int (iI ((r + 1 : Nat) : Int))), none, none] [] (z_w1 (z_w1 S.1 105 r (iI (if w = 0 then lpg A g h r n0 else mnI (lo r) (lpg A g h r n0)))) 106 r (iI (if w = 0 then lpg A g h r n0 else mxI (hi r) (lpg A g h r n0))), S.2) := by
      by_cases q : w = 0
      · refine ⟨n1 + 2, by omega, ?_⟩
        rw [zq_166_62, m_3 hM, hR, if_neg (by rw [iI_le (by omega) (by omega) (by omega) (by omega)]; omega)]
        refine Eq.trans b2 ?_
        rw [zq_166_114, h56, if_pos q, zq_166_140, ixN (show r < 8 by omega) (by decide), cond_true, h56, if_pos q, zq_166_167, ixN (show r < 8 by omega) (by decide), cond_true, tN (by omega), iI_n, iI_add, e2, if_pos q, if_pos q]
      · refine ⟨n1, by omega, ?_⟩
        obtain ⟨⟨v1, v2⟩, v3, v4⟩ := hv q r (Nat.le_refl _) (by omega)
        rw [zq_166_62, m_3 hM, hR, if_neg (by rw [iI_le (by omega) (by omega) (by omega) (by omega)]; omega)]
        refine Eq.trans b2 ?_
        rw [zq_166_114, h56, if_neg q, zq_166_130, ixN (show r < 8 by omega) (by decide), cond_true, tN (by omega), v1, zy_188 d _ _ _ (by omega) (by omega) (by omega) (by omega), cli_i, zq_166_140, ixN (show r < 8 by omega) (by decide), cond_true, h56, if_neg q, zq_166_157, ixN (show r < 8 by omega) (by decide), cond_true, tN (by omega)]
        dsimp only
        rw [z_w1_r, if_neg (show ¬ ((106 : Nat) = 105 ∧ r = r) by omega), v2, zy_187 d _ _ _ (by omega) (by omega) (by omega) (by omega), cli_i, zq_166_167, ixN (show r < 8 by omega) (by decide), cond_true, tN (by omega), iI_n, iI_add, e2, if_neg q, if_neg q]
    obtain ⟨n', c1, c2⟩ := step
    obtain ⟨u0, hu0⟩ : ∃ u, u = iI (if w = 0 then lpg A g h r n0 else mnI (lo r) (lpg A g h r n0)) := ⟨_, rfl⟩
    obtain ⟨v0, hv0⟩ : ∃ u, u = iI (if w = 0 then lpg A g h r n0 else mxI (hi r) (lpg A g h r n0)) := ⟨_, rfl⟩
    rw [← hu0, ← hv0] at c2
    have w3 : ∀ a x, a ≠ 105 → a ≠ 106 → z_w1 (z_w1 S.1 105 r u0) 106 r v0 a x = S.1 a x := by
      intro a x h1 h2
      rw [z_w1_r, if_neg (by omega), z_w1_r, if_neg (by omega)]
    have w4 : ∀ x, x ≠ r → z_w1 (z_w1 S.1 105 r u0) 106 r v0 105 x = S.1 105 x := by
      intro x h1
      rw [z_w1_r, if_neg (by omega), z_w1_r, if_neg (by omega)]
    have w5 : ∀ x, x ≠ r → z_w1 (z_w1 S.1 105 r u0) 106 r v0 106 x = S.1 106 x := by
      intro x h1
      rw [z_w1_r, if_neg (by omega), z_w1_r, if_neg (by omega)]
    have fq : frW S (z_w1 (z_w1 S.1 105 r u0) 106 r v0, S.2) := ⟨fun a x _ _ h3 h4 _ => w3 a x h3 h4, rfl⟩
    obtain ⟨S', a1, a2, a3, a4, a5, a6⟩ := ih (r + 1) n' (z_w1 (z_w1 S.1 105 r u0) 106 r v0, S.2) none none (by omega) (by omega) (hM.fW hw fq) ((w3 70 55 (by decide) (by decide)).trans h55) (fun j hj => (w3 101 j (by decide) (by decide)).trans (hg j hj)) (fun j hj => ⟨(w3 102 j (by decide) (by decide)).trans (hh j hj).1, (hh j hj).2⟩) ((w3 70 56 (by decide) (by decide)).trans h56) (fun q r' h1 h2 => by
      obtain ⟨⟨v1, v2⟩, v3⟩ := hv q r' (by omega) h2
      dsimp only
      rw [w4 r' (by omega), w5 r' (by omega)]
      exact ⟨⟨v1, v2⟩, v3⟩)
    refine ⟨S', c2.trans a1, fun r' h1 h2 => ?_, a3, fun r' h1 => ?_, fun a x h1 h2 h3 => (a5 a x h1 h2 h3).trans (w3 a x h1 h2), a6⟩
    · by_cases e : r' = r
      · subst e
        rw [(a4 r' (by omega)).1, (a4 r' (by omega)).2, ← hu0, ← hv0]
        dsimp only
        constructor
        · rw [z_w1_r, if_neg (by omega), z_w1_r, if_pos ⟨rfl, rfl⟩]
        · rw [z_w1_r, if_pos ⟨rfl, rfl⟩]
      · exact a2 r' (by omega) h2
    · rw [(a4 r' (by omega)).1, (a4 r' (by omega)).2]
      dsimp only
      rw [w4 r' (by omega), w5 r' (by omega)]
      exact ⟨rfl, rfl⟩
theorem m_tell {n0 R : Nat} {g h : Nat → Nat} {w : Int32} {lo hi : Nat → Int} (hw : wf A) (hM : MI A S) (hR : A 3 0 = R) (hn0 : n0 < 7) (hg24 : ∀ j, j < n0 → (g j : Int) < A 6 0) (inj : ∀ i j, i < n0 → j < n0 → g i = g j → i = j) (h55 : S.1 70 55 = iI (n0 : Int)) (hg : ∀ j, j < n0 → S.1 101 j = iI (g j : Int)) (hh : ∀ j, j < n0 → S.1 102 j = iI (h j : Int) ∧ h j < 8) (h56 : S.1 70 56 = w) (hv : w ≠ 0 → ∀ r', r' < R → (S.1 105 r' = iI (lo r') ∧ S.1 106 r' = iI (hi r')) ∧ (1 ≤ lo r' ∧ lo r' ≤ 401) ∧ 1 ≤ hi r' ∧ hi r' ≤ 401) (d : Nat) : ∃ S', z_ew (d + 2) 166 [.ref 70] S = some (.inl none, S') ∧ (∀ j, j < n0 → S'.1 103 (g j) = S.1 103 (g j) ||| bB (h j) ∧ S'.1 104 (g j) = S.1 104 (g j) &&& bB (h j)) ∧ (∀ r', r' < R → S'.1 105 r' = iI (if w = 0 then lpg A g h r' n0 else mnI (lo r') (lpg A g h r' n0)) ∧ S'.1 106 r' = iI (if w = 0 then lpg A g h r' n0 else mxI (hi r') (lpg A g h r' n0))) ∧ S'.1 70 56 = w + nI 1 ∧ frW S S' := by
  have hk := hw.k
  have hr2 := hw.r
  obtain ⟨S1, n1, a1, a2, a3, a4, a5⟩ := m_t1 (h := h) hn0 (fun j hj => by have := hg24 j hj; omega) inj (d + 1) 0 n0 0 999999 S none none (by omega) (by omega) h55 hg (fun j hj => (hh j hj).1)
  obtain ⟨n1, rfl⟩ : ∃ m, n1 = m + 1 := ⟨n1 - 1, by omega⟩
  have fq : frW S S1 := ⟨fun a x h1 h2 _ _ _ => a4 a x h1 h2, a5⟩
  obtain ⟨S', b1, b2, b3, _, b5, b6⟩ := m_t3 (h := h) (lo := lo) (hi := hi) (w := w) hw hR hn0 hg24 d 0 R 0 n1 S1 none none (by omega) (by omega) (hM.fW hw fq) ((a4 70 55 (by decide) (by decide)).trans h55) (fun j hj => (a4 101 j (by decide) (by decide)).trans (hg j hj)) (fun j hj => ⟨(a4 102 j (by decide) (by decide)).trans (hh j hj).1, (hh j hj).2⟩) ((a4 70 56 (by decide) (by decide)).trans h56) (fun q r' _ h2 => by
    obtain ⟨⟨v1, v2⟩, v3⟩ := hv q r' h2
    exact ⟨⟨(a4 105 r' (by decide) (by decide)).trans v1, (a4 106 r' (by decide) (by decide)).trans v2⟩, v3⟩)
  refine ⟨S', ?_, fun j hj => ?_, fun r' hr' => b2 r' (Nat.zero_le _) hr', b3, fq.tr ⟨fun a x _ _ h3 h4 h5 => b5 a x h3 h4 h5, b6⟩⟩
  · rw [zx_166]
    refine Eq.trans a2 ?_
    rw [zq_166_60]
    exact b1
  · rw [b5 103 (g j) (by decide) (by decide) (Or.inl (by decide)), b5 104 (g j) (by decide) (by decide) (Or.inl (by decide)), (a3 j hj).1, (a3 j hj).2, if_pos (Nat.zero_le _), if_pos (Nat.zero_le _)]
    exact ⟨rfl, rfl⟩
end TEL
