/-! waiting: the order of least waiting -/
abbrev wS : Type := Int × (Nat → Int) × (Nat → Int)
def wl (f : Nat → wS → wS) : Nat → Nat → wS → wS
  | 0, _, s => s
  | j + 1, i, s => wl f j (i + 1) (f i s)
def wt (n : Nat) (i : Nat) (s : wS) : wS := (s.1, s.2.1, fun k => if k = n then (i : Int) else s.2.2 k)
/-- the model's search: k places still to fill, n filled -/
def wm (w : Nat) (H R : Nat → Int) : Nat → Nat → Nat → Int → Int → wS → wS
  | 0, n, _, _, g, s => if s.1 ≠ -1 ∧ s.1 ≤ g then s else (g, fun k => if k < n then s.2.2 k else s.2.1 k, s.2.2)
  | k + 1, n, u, f, g, s => wl (fun i s => if u.testBit i = true then s else wm w H R k (n + 1) (u ||| 2 ^ i) (mxI f (R i) + H i) (g + mxI f (R i) - R i) (wt n i s)) w 0 s
/-- the class's, that leaves off where nothing can be won -/
def wc (w : Nat) (H R : Nat → Int) : Nat → Nat → Nat → Int → Int → wS → wS
  | 0, _, _, _, g, s => if s.1 ≤ g then s else (g, fun k => if k < w then s.2.2 k else s.2.1 k, s.2.2)
  | k + 1, n, u, f, g, s => if s.1 ≤ g then s else wl (fun i s => if u.testBit i = true then s else wc w H R k (n + 1) (u ||| 2 ^ i) (mxI f (R i) + H i) (g + mxI f (R i) - R i) (wt n i s)) w 0 s
def wR (w n : Nat) (c m : wS) : Prop := (m.1 = -1 ∧ c.1 = 1000000 ∨ m.1 = c.1 ∧ 0 ≤ m.1 ∧ m.1 < 1000000) ∧ (m.1 ≠ -1 → ∀ k, k < w → c.2.1 k = m.2.1 k ∧ 0 ≤ m.2.1 k ∧ m.2.1 k < 7) ∧ (∀ k, k < n → c.2.2 k = m.2.2 k ∧ 0 ≤ m.2.2 k ∧ m.2.2 k < 7)
theorem mxI_ge (a b : Int) : b ≤ mxI a b ∧ a ≤ mxI a b := by
  unfold mxI
  by_cases h : a < b
  · rw [if_pos h]; omega
  · rw [if_neg h]; omega
theorem mxI_or (a b : Int) : mxI a b = a ∨ mxI a b = b := by
  unfold mxI
  by_cases h : a < b
  · rw [if_pos h]; exact Or.inr rfl
  · rw [if_neg h]; exact Or.inl rfl
section WAP
variable {w : Nat} {H R : Nat → Int}
theorem wm_no : ∀ (k n u : Nat) (f g : Int) (s : wS), s.1 ≠ -1 → s.1 ≤ g → (wm w H R k n u f g s).1 = s.1 ∧ (wm w H R k n u f g s).2.1 = s.2.1 ∧ ∀ q, q < n → (wm w H R k n u f g s).2.2 q = s.2.2 q := by
  intro k
  induction k with
  | zero =>
    intro n u f g s h1 h2
    have e : wm w H R 0 n u f g s = s := if_pos ⟨h1, h2⟩
    rw [e]
    exact ⟨rfl, rfl, fun _ _ => rfl⟩
  | succ k ih =>
    intro n u f g s h1 h2
    have key : ∀ (j i : Nat) (t : wS), t.1 = s.1 → t.2.1 = s.2.1 → (∀ q, q < n → t.2.2 q = s.2.2 q) → (wl (fun i s => if u.testBit i = true then s else wm w H R k (n + 1) (u ||| 2 ^ i) (mxI f (R i) + H i) (g + mxI f (R i) - R i) (wt n i s)) j i t).1 = s.1 ∧ (wl (fun i s => if u.testBit i = true then s else wm w H R k (n + 1) (u ||| 2 ^ i) (mxI f (R i) + H i) (g + mxI f (R i) - R i) (wt n i s)) j i t).2.1 = s.2.1 ∧ ∀ q, q < n → (wl (fun i s => if u.testBit i = true then s else wm w H R k (n + 1) (u ||| 2 ^ i) (mxI f (R i) + H i) (g + mxI f (R i) - R i) (wt n i s)) j i t).2.2 q = s.2.2 q := by
      intro j
      induction j with
      | zero => intro i t e1 e2 e3; exact ⟨e1, e2, e3⟩
      | succ j ihj =>
        intro i t e1 e2 e3
        have hm := mxI_ge f (R i)
        refine ihj (i + 1) (if u.testBit i = true then t else wm w H R k (n + 1) (u ||| 2 ^ i) (mxI f (R i) + H i) (g + mxI f (R i) - R i) (wt n i t)) ?_ ?_ ?_
        · by_cases hb : u.testBit i = true
          · rw [if_pos hb]; exact e1
          · rw [if_neg hb, (ih (n + 1) (u ||| 2 ^ i) _ _ (wt n i t) (by show t.1 ≠ -1; rw [e1]; exact h1) (by show t.1 ≤ _; omega)).1]; exact e1
        · by_cases hb : u.testBit i = true
          · rw [if_pos hb]; exact e2
          · rw [if_neg hb, (ih (n + 1) (u ||| 2 ^ i) _ _ (wt n i t) (by show t.1 ≠ -1; rw [e1]; exact h1) (by show t.1 ≤ _; omega)).2.1]; exact e2
        · intro q hq
          by_cases hb : u.testBit i = true
          · rw [if_pos hb]; exact e3 q hq
          · rw [if_neg hb, (ih (n + 1) (u ||| 2 ^ i) _ _ (wt n i t) (by show t.1 ≠ -1; rw [e1]; exact h1) (by show t.1 ≤ _; omega)).2.2 q (by omega)]
            show (if q = n then (i : Int) else t.2.2 q) = _
            rw [if_neg (by omega)]
            exact e3 q hq
    exact key w 0 s rfl rfl (fun _ _ => rfl)
theorem wR.le {n n' : Nat} {c m : wS} (h : wR w n c m) (hn : n' ≤ n) : wR w n' c m := ⟨h.1, h.2.1, fun k hk => h.2.2 k (by omega)⟩
theorem wR.t {n i : Nat} {c m : wS} (h : wR w n c m) (hi : i < 7) : wR w (n + 1) (wt n i c) (wt n i m) := by
  refine ⟨h.1, h.2.1, fun k hk => ?_⟩
  show (if k = n then (i : Int) else c.2.2 k) = (if k = n then (i : Int) else m.2.2 k) ∧ 0 ≤ (if k = n then (i : Int) else m.2.2 k) ∧ (if k = n then (i : Int) else m.2.2 k) < 7
  by_cases q : k = n
  · rw [if_pos q, if_pos q]; omega
  · rw [if_neg q, if_neg q]; exact h.2.2 k (by omega)
theorem wR_main (h7 : w ≤ 7) (hR : ∀ i, i < w → 0 ≤ R i ∧ R i ≤ 999) (hH : ∀ i, i < w → 1 ≤ H i ∧ H i ≤ 99) : ∀ (k n u : Nat) (f g : Int) (c m : wS), n + k = w → 0 ≤ f → f ≤ 999 + 99 * n → 0 ≤ g → g ≤ 2000 * n → wR w n c m → wR w n (wc w H R k n u f g c) (wm w H R k n u f g m) := by
  intro k
  induction k with
  | zero =>
    intro n u f g c m hn f0 f1 g0 g1 h
    show wR w n (if c.1 ≤ g then c else (g, fun k => if k < w then c.2.2 k else c.2.1 k, c.2.2)) (if m.1 ≠ -1 ∧ m.1 ≤ g then m else (g, fun k => if k < n then m.2.2 k else m.2.1 k, m.2.2))
    by_cases q : c.1 ≤ g
    · rw [if_pos q, if_pos (by rcases h.1 with h1 | h1 <;> omega)]
      exact h
    · rw [if_neg q, if_neg (by rcases h.1 with h1 | h1 <;> omega)]
      refine ⟨Or.inr ⟨rfl, g0, by show g < 1000000; omega⟩, fun _ k hk => ?_, h.2.2⟩
      show (if k < w then c.2.2 k else c.2.1 k) = (if k < n then m.2.2 k else m.2.1 k) ∧ 0 ≤ (if k < n then m.2.2 k else m.2.1 k) ∧ (if k < n then m.2.2 k else m.2.1 k) < 7
      rw [if_pos hk, if_pos (by omega)]
      exact h.2.2 k (by omega)
  | succ k ih =>
    intro n u f g c m hn f0 f1 g0 g1 h
    show wR w n (if c.1 ≤ g then c else wl (fun i s => if u.testBit i = true then s else wc w H R k (n + 1) (u ||| 2 ^ i) (mxI f (R i) + H i) (g + mxI f (R i) - R i) (wt n i s)) w 0 c) (wm w H R (k + 1) n u f g m)
    by_cases q : c.1 ≤ g
    · rw [if_pos q]
      obtain ⟨e1, e2, e3⟩ := wm_no (H := H) (R := R) (w := w) (k + 1) n u f g m (by rcases h.1 with h1 | h1 <;> omega) (by rcases h.1 with h1 | h1 <;> omega)
      refine ⟨by rw [e1]; exact h.1, by rw [e1, e2]; exact h.2.1, fun q hq => by rw [e3 q hq]; exact h.2.2 q hq⟩
    · rw [if_neg q]
      have key : ∀ (j i : Nat) (c m : wS), i + j = w → wR w n c m → wR w n (wl (fun i s => if u.testBit i = true then s else wc w H R k (n + 1) (u ||| 2 ^ i) (mxI f (R i) + H i) (g + mxI f (R i) - R i) (wt n i s)) j i c) (wl (fun i s => if u.testBit i = true then s else wm w H R k (n + 1) (u ||| 2 ^ i) (mxI f (R i) + H i) (g + mxI f (R i) - R i) (wt n i s)) j i m) := by
        intro j
        induction j with
        | zero => intro i c m _ h; exact h
        | succ j ihj =>
          intro i c m hi h
          refine ihj (i + 1) _ _ (by omega) ?_
          show wR w n (if u.testBit i = true then c else _) (if u.testBit i = true then m else _)
          by_cases hb : u.testBit i = true
          · rw [if_pos hb, if_pos hb]; exact h
          · rw [if_neg hb, if_neg hb]
            have hr := hR i (by omega)
            have hh := hH i (by omega)
            have hm := mxI_ge f (R i)
            have ho := mxI_or f (R i)
            exact (ih (n + 1) (u ||| 2 ^ i) _ _ _ _ (by omega) (by omega) (by omega) (by omega) (by omega) (h.t (i := i) (by omega))).le (by omega)
      exact key w 0 c m (by omega) h
theorem wm_k : ∀ (k n u : Nat) (f g : Int) (s : wS), 0 ≤ g → s.1 ≠ -1 → (wm w H R k n u f g s).1 ≠ -1 := by
  intro k
  induction k with
  | zero =>
    intro n u f g s h1 h2
    show (if _ then _ else _ : wS).1 ≠ -1
    by_cases q : s.1 ≠ -1 ∧ s.1 ≤ g
    · rw [if_pos q]; exact h2
    · rw [if_neg q]; show g ≠ -1; omega
  | succ k ih =>
    intro n u f g s h1 h2
    have key : ∀ (j i : Nat) (t : wS), t.1 ≠ -1 → (wl (fun i s => if u.testBit i = true then s else wm w H R k (n + 1) (u ||| 2 ^ i) (mxI f (R i) + H i) (g + mxI f (R i) - R i) (wt n i s)) j i t).1 ≠ -1 := by
      intro j
      induction j with
      | zero => intro i t h; exact h
      | succ j ihj =>
        intro i t h
        refine ihj (i + 1) _ ?_
        show (if u.testBit i = true then t else _ : wS).1 ≠ -1
        by_cases hb : u.testBit i = true
        · rw [if_pos hb]; exact h
        · rw [if_neg hb]
          have hm := mxI_ge f (R i)
          exact ih _ _ _ _ _ (by omega) h
    exact key w 0 s h2
theorem wm_hit : ∀ (k n u : Nat) (f g : Int) (s : wS), n + k = w → fb_ct (fun i => u.testBit i) w = n → 0 ≤ g → (wm w H R k n u f g s).1 ≠ -1 := by
  intro k
  induction k with
  | zero =>
    intro n u f g s hn hu h1
    show (if _ then _ else _ : wS).1 ≠ -1
    by_cases q : s.1 ≠ -1 ∧ s.1 ≤ g
    · rw [if_pos q]; exact q.1
    · rw [if_neg q]; show g ≠ -1; omega
  | succ k ih =>
    intro n u f g s hn hu h1
    have hex : ∃ i, i < w ∧ ¬ u.testBit i = true := by
      by_cases hq : ∀ i, i < w → u.testBit i = true
      · have := (fb_ct_all (p := fun i => u.testBit i)).2 hq
        omega
      · obtain ⟨i, hi⟩ := Classical.not_forall.1 hq
        obtain ⟨h2, h3⟩ := Classical.not_imp.1 hi
        exact ⟨i, h2, h3⟩
    obtain ⟨i0, hi0, hb0⟩ := hex
    have key : ∀ (j i : Nat) (t : wS), (t.1 ≠ -1 ∨ i ≤ i0 ∧ i0 < i + j) → (wl (fun i s => if u.testBit i = true then s else wm w H R k (n + 1) (u ||| 2 ^ i) (mxI f (R i) + H i) (g + mxI f (R i) - R i) (wt n i s)) j i t).1 ≠ -1 := by
      intro j
      induction j with
      | zero =>
        intro i t h
        rcases h with h | h
        · exact h
        · omega
      | succ j ihj =>
        intro i t h
        refine ihj (i + 1) _ ?_
        have hm := mxI_ge f (R i)
        show (if u.testBit i = true then t else _ : wS).1 ≠ -1 ∨ _
        by_cases hb : u.testBit i = true
        · rw [if_pos hb]
          rcases h with h | h
          · exact Or.inl h
          · by_cases e : i = i0
            · exact absurd (e ▸ hb) hb0
            · exact Or.inr (by omega)
        · rw [if_neg hb]
          rcases h with h | h
          · exact Or.inl (wm_k _ _ _ _ _ _ (by omega) h)
          · by_cases e : i = i0
            · refine Or.inl (ih _ _ _ _ _ (by omega) ?_ (by omega))
              have e1 : fb_ct (fun q => (u ||| 2 ^ i).testBit q) w = fb_ct (fun q => if q = i then true else u.testBit q) w := fb_ct_cong (fun q _ => tb_or u i q)
              have e2 := fb_ct_upd (fun q => u.testBit q) true (i := i) (n := w) (by omega)
              rw [e1]
              simp only [hb, if_true] at e2
              simpa [hu] using e2
            · exact Or.inr (by omega)
    exact key w 0 s (Or.inr ⟨by omega, by omega⟩)
end WAP
