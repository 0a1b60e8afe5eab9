/-! settle: pure -/
def pc6 (u : Nat) : Nat := fb_ct (fun i => u.testBit i) 6
theorem rs2 {x y : Int32} {S : z_St} (h : x = y) : (some (Sum.inl (some (Value.int x)), S) : z_Res) = some (Sum.inl (some (Value.int y)), S) := by rw [h]
theorem zy_185 (d u : Nat) (S : z_St) (hu : u < 64) : z_ew (d + 1) 185 [.int (iI (u : Int))] S = some (.inl (some (.int (iI (pc6 u : Int)))), S) := by
  rw [zx_185]
  refine rs2 ?_
  revert u
  decide +kernel
theorem kb_t : ∀ u : Nat, u < 64 → u ≠ 0 → iI (u : Int) &&& (iI (u : Int) - nI 1) = iI ((u &&& (u - 1) : Nat) : Int) ∧ pc6 (u &&& (u - 1)) + 1 = pc6 u ∧ u &&& (u - 1) < 64 := by decide +kernel
theorem kb_0 : pc6 0 = 0 := by decide +kernel
theorem pc6_le (u : Nat) : pc6 u ≤ 6 := fb_ct_le _ _
theorem m_bo (d z : Nat) (S : z_St) : ∀ (k u c n : Nat) (x0 : Option Value), pc6 u = k → u < 64 → k + 2 ≤ n → z_R178 d n 4 z [x0, some (.int (iI (c : Int))), some (.int (iI (u : Int)))] [] S = some (.inl (some (.int (iI ((c + k : Nat) : Int)))), S) := by
  intro k
  induction k with
  | zero =>
    intro u c n x0 hk hu hn
    obtain ⟨n, rfl⟩ : ∃ m, n = m + 2 := ⟨n - 2, by omega⟩
    have e : u = 0 := by
      by_cases q : u = 0
      · exact q
      · have := (kb_t u hu q).2.1
        omega
    subst e
    rw [zq_178_4, if_pos (by rfl), zq_178_20]
    rfl
  | succ k ih =>
    intro u c n x0 hk hu hn
    obtain ⟨n, rfl⟩ : ∃ m, n = m + 1 := ⟨n - 1, by omega⟩
    have q : u ≠ 0 := by
      intro e
      rw [e, kb_0] at hk
      omega
    obtain ⟨e1, e2, e3⟩ := kb_t u hu q
    rw [zq_178_4, iI_0, if_neg (by rw [iI_eq (by omega) (by omega) (by decide) (by decide)]; omega), e1, iI_n 1, iI_add, show (c : Int) + ((1 : Nat) : Int) = ((c + 1 : Nat) : Int) by omega, ih _ _ _ _ (by omega) e3 (by omega), show c + 1 + k = c + (k + 1) by omega]
theorem zy_178 (d u : Nat) (S : z_St) (hu : u < 64) : z_ew (d + 1) 178 [.int (iI (u : Int))] S = some (.inl (some (.int (iI (pc6 u : Int)))), S) := by
  have h := m_bo d 0 S (pc6 u) u 0 999999 (some (.int (iI (u : Int)))) rfl hu (by have := pc6_le u; omega)
  rw [Nat.zero_add] at h
  rw [zx_178]
  exact h
/-- the tales of a set that say so -/
def lbf (T : Nat → Int) (s : Nat) (g : Int) : Nat → Nat
  | 0 => 0
  | k + 1 => if s.testBit k = true ∧ T k = g then lbf T s g k ||| 2 ^ k else lbf T s g k
theorem lbf_t (T : Nat → Int) (s : Nat) (g : Int) : ∀ k i, (lbf T s g k).testBit i = (decide (i < k) && (s.testBit i && decide (T i = g)))
  | 0, i => by
    show (0 : Nat).testBit i = _
    rw [Nat.zero_testBit]
    simp
  | k + 1, i => by
    have ih := lbf_t T s g k i
    show (if s.testBit k = true ∧ T k = g then lbf T s g k ||| 2 ^ k else lbf T s g k).testBit i = _
    by_cases q : s.testBit k = true ∧ T k = g
    · rw [if_pos q, tb_or]
      by_cases e : i = k
      · subst e
        simp [q.1, q.2]
      · rw [if_neg e, ih]
        have : (i < k + 1) ↔ (i < k) := by omega
        simp [this]
    · rw [if_neg q, ih]
      by_cases e : i = k
      · subst e
        by_cases q1 : s.testBit i = true
        · have q2 : ¬ T i = g := fun h => q ⟨q1, h⟩
          simp [q2]
        · simp [q1]
      · have : (i < k + 1) ↔ (i < k) := by omega
        simp [this]
theorem lbf_lt (T : Nat → Int) (s : Nat) (g : Int) : ∀ k, lbf T s g k < 2 ^ k
  | 0 => by show 0 < 1; decide
  | k + 1 => by
    have ih := lbf_lt T s g k
    have h2 : 2 ^ k < 2 ^ (k + 1) := Nat.pow_lt_pow_right (by decide) (by omega)
    show (if s.testBit k = true ∧ T k = g then lbf T s g k ||| 2 ^ k else lbf T s g k) < 2 ^ (k + 1)
    by_cases q : s.testBit k = true ∧ T k = g
    · rw [if_pos q]
      exact Nat.or_lt_two_pow (by omega) h2
    · rw [if_neg q]
      omega
theorem lbf_sub (T : Nat → Int) (s : Nat) (g : Int) (k : Nat) : lbf T s g k &&& s = lbf T s g k := by
  apply Nat.eq_of_testBit_eq
  intro i
  rw [Nat.testBit_and, lbf_t]
  cases s.testBit i <;> simp
theorem sub_le {x s : Nat} (h : x &&& s = x) : x ≤ s := by
  rw [← h]
  exact Nat.and_le_right
theorem sub_tr {x y z : Nat} (h : x &&& y = x) (h2 : y &&& z = y) : x &&& z = x := by
  rw [← h, Nat.and_assoc, h2]
/-- how many looks, if this book is looked at first -/
def lfr (T : Nat → Int) (f : Nat → Int) (s : Nat) : Nat → Nat → Int → Int
  | 0, _, w => w + 1
  | k + 1, i, w => if s.testBit i = true then (if lbf T s (T i) 6 = s ∨ f (lbf T s (T i) 6) = -1 then -1 else lfr T f s k (i + 1) (mxI w (f (lbf T s (T i) 6)))) else lfr T f s k (i + 1) w
theorem lfr_c {T f g : Nat → Int} {s : Nat} (h : ∀ q, q < s → q &&& s = q → f q = g q) : ∀ k i w, lfr T f s k i w = lfr T g s k i w
  | 0, _, _ => rfl
  | k + 1, i, w => by
    have h1 := lbf_sub T s (T i) 6
    have h2 := sub_le h1
    show (if s.testBit i = true then (if lbf T s (T i) 6 = s ∨ f (lbf T s (T i) 6) = -1 then -1 else lfr T f s k (i + 1) (mxI w (f (lbf T s (T i) 6)))) else lfr T f s k (i + 1) w) = (if s.testBit i = true then (if lbf T s (T i) 6 = s ∨ g (lbf T s (T i) 6) = -1 then -1 else lfr T g s k (i + 1) (mxI w (g (lbf T s (T i) 6)))) else lfr T g s k (i + 1) w)
    rw [lfr_c h k (i + 1) w]
    by_cases q : lbf T s (T i) 6 = s
    · rw [if_pos (Or.inl q), if_pos (Or.inl q)]
    · rw [h _ (by omega) h1, lfr_c h k (i + 1)]
theorem lfr_b {T f : Nat → Int} {s : Nat} (h : ∀ q, q < s → q &&& s = q → -1 ≤ f q ∧ f q ≤ q) : ∀ (k i : Nat) (w : Int), 0 ≤ w → w < (s : Int) → -1 ≤ lfr T f s k i w ∧ lfr T f s k i w ≤ s
  | 0, _, w, h1, h2 => by show -1 ≤ w + 1 ∧ w + 1 ≤ (s : Int); omega
  | k + 1, i, w, h1, h2 => by
    have h3 := lbf_sub T s (T i) 6
    have h4 := sub_le h3
    show -1 ≤ (if s.testBit i = true then (if lbf T s (T i) 6 = s ∨ f (lbf T s (T i) 6) = -1 then -1 else lfr T f s k (i + 1) (mxI w (f (lbf T s (T i) 6)))) else lfr T f s k (i + 1) w) ∧ (if s.testBit i = true then (if lbf T s (T i) 6 = s ∨ f (lbf T s (T i) 6) = -1 then -1 else lfr T f s k (i + 1) (mxI w (f (lbf T s (T i) 6)))) else lfr T f s k (i + 1) w) ≤ s
    by_cases b : s.testBit i = true
    · rw [if_pos b]
      by_cases q : lbf T s (T i) 6 = s ∨ f (lbf T s (T i) 6) = -1
      · rw [if_pos q]; omega
      · rw [if_neg q]
        have h5 := h (lbf T s (T i) 6) (by omega) h3
        have h6 := mxI_ge w (f (lbf T s (T i) 6))
        have h7 := mxI_or w (f (lbf T s (T i) 6))
        exact lfr_b h k (i + 1) _ (by omega) (by omega)
    · rw [if_neg b]
      exact lfr_b h k (i + 1) w h1 h2
def wsr (T : Nat → Nat → Int) (f : Nat → Int) (s : Nat) : Nat → Nat → Int × Int → Int × Int
  | 0, _, r => r
  | k + 1, b, r => wsr T f s k (b + 1) (if lfr (fun t => T t b) f s 6 0 0 ≠ -1 ∧ (r.1 = -1 ∨ lfr (fun t => T t b) f s 6 0 0 < r.1) then (lfr (fun t => T t b) f s 6 0 0, (b : Int)) else r)
def wss (T : Nat → Nat → Int) (B : Nat) (f : Nat → Int) (s : Nat) : Int × Int := if pc6 s ≤ 1 then (0, -1) else wsr T f s B 0 (-1, -1)
theorem wsr_c {T : Nat → Nat → Int} {f g : Nat → Int} {s : Nat} (h : ∀ q, q < s → q &&& s = q → f q = g q) : ∀ k b r, wsr T f s k b r = wsr T g s k b r
  | 0, _, _ => rfl
  | k + 1, b, r => by
    show wsr T f s k (b + 1) (if lfr (fun t => T t b) f s 6 0 0 ≠ -1 ∧ (r.1 = -1 ∨ lfr (fun t => T t b) f s 6 0 0 < r.1) then (lfr (fun t => T t b) f s 6 0 0, (b : Int)) else r) = wsr T g s k (b + 1) (if lfr (fun t => T t b) g s 6 0 0 ≠ -1 ∧ (r.1 = -1 ∨ lfr (fun t => T t b) g s 6 0 0 < r.1) then (lfr (fun t => T t b) g s 6 0 0, (b : Int)) else r)
    rw [lfr_c h, wsr_c h k (b + 1)]
theorem wss_c {T : Nat → Nat → Int} {B : Nat} {f g : Nat → Int} {s : Nat} (h : ∀ q, q < s → q &&& s = q → f q = g q) : wss T B f s = wss T B g s := by
  unfold wss
  rw [wsr_c h]
theorem wsr_b {T : Nat → Nat → Int} {f : Nat → Int} {s B : Nat} (h0 : 0 < s) (h : ∀ q, q < s → q &&& s = q → -1 ≤ f q ∧ f q ≤ q) : ∀ (k b : Nat) (r : Int × Int), b + k ≤ B → (-1 : Int) ≤ r.1 ∧ r.1 ≤ (s : Int) ∧ (-1 : Int) ≤ r.2 ∧ r.2 < (B : Int) → -1 ≤ (wsr T f s k b r).1 ∧ (wsr T f s k b r).1 ≤ s ∧ -1 ≤ (wsr T f s k b r).2 ∧ (wsr T f s k b r).2 < B
  | 0, _, _, _, hr => hr
  | k + 1, b, r, hb, hr => by
    have hl := lfr_b (T := fun t => T t b) h 6 0 0 (by decide) (by omega)
    refine wsr_b h0 h k (b + 1) _ (by omega) ?_
    by_cases q : lfr (fun t => T t b) f s 6 0 0 ≠ -1 ∧ (r.1 = -1 ∨ lfr (fun t => T t b) f s 6 0 0 < r.1)
    · rw [if_pos q]
      show -1 ≤ lfr (fun t => T t b) f s 6 0 0 ∧ lfr (fun t => T t b) f s 6 0 0 ≤ s ∧ -1 ≤ (b : Int) ∧ (b : Int) < B
      omega
    · rw [if_neg q]
      exact hr
theorem wss_b {T : Nat → Nat → Int} {f : Nat → Int} {s B : Nat} (h : ∀ q, q < s → q &&& s = q → -1 ≤ f q ∧ f q ≤ q) : -1 ≤ (wss T B f s).1 ∧ (wss T B f s).1 ≤ s ∧ -1 ≤ (wss T B f s).2 ∧ (wss T B f s).2 < B ∨ (wss T B f s) = (0, -1) ∨ (wss T B f s) = (-1, -1) := by
  unfold wss
  by_cases q : pc6 s ≤ 1
  · rw [if_pos q]
    exact Or.inr (Or.inl rfl)
  · rw [if_neg q]
    have h0 : 0 < s := by
      by_cases e : s = 0
      · rw [e, kb_0] at q
        omega
      · omega
    cases B with
    | zero => exact Or.inr (Or.inr rfl)
    | succ B =>
      exact Or.inl (wsr_b h0 h (B + 1) 0 (-1, -1) (by omega) ⟨by decide, by show (-1 : Int) ≤ s; omega, by decide, by show (-1 : Int) < ((B + 1 : Nat) : Int); omega⟩)
/-- all sets below n -/
def tn (T : Nat → Nat → Int) (B : Nat) : Nat → Nat → Int
  | 0 => fun _ => 0
  | n + 1 => fun q => if q = n then (wss T B (tn T B n) n).1 else tn T B n q
def ff (T : Nat → Nat → Int) (B s : Nat) : Int × Int := wss T B (tn T B s) s
theorem tn_f (T : Nat → Nat → Int) (B : Nat) : ∀ n q, q < n → tn T B n q = (ff T B q).1
  | n + 1, q, h => by
    show (if q = n then (wss T B (tn T B n) n).1 else tn T B n q) = _
    by_cases e : q = n
    · rw [if_pos e, e]
      rfl
    · rw [if_neg e]
      exact tn_f T B n q (by omega)
theorem ff_e {T : Nat → Nat → Int} {B : Nat} {f : Nat → Int} {s : Nat} (h : ∀ q, q < s → q &&& s = q → f q = (ff T B q).1) : wss T B f s = ff T B s :=
  wss_c (fun q h1 h2 => by rw [h q h1 h2, tn_f T B s q h1])
theorem ff_b (T : Nat → Nat → Int) (B : Nat) : ∀ s n, n < s → -1 ≤ (ff T B n).1 ∧ (ff T B n).1 ≤ n ∧ -1 ≤ (ff T B n).2 ∧ ((ff T B n).2 < B ∨ (ff T B n).2 = -1)
  | s + 1, n, hn => by
    have h : ∀ q, q < n → q &&& n = q → -1 ≤ tn T B n q ∧ tn T B n q ≤ q := fun q h1 _ => by
      have := ff_b T B s q (by omega)
      rw [tn_f T B n q h1]
      exact ⟨this.1, this.2.1⟩
    rcases wss_b (T := T) (B := B) h with g | g | g
    · show -1 ≤ (wss T B (tn T B n) n).1 ∧ (wss T B (tn T B n) n).1 ≤ n ∧ -1 ≤ (wss T B (tn T B n) n).2 ∧ ((wss T B (tn T B n) n).2 < B ∨ (wss T B (tn T B n) n).2 = -1)
      exact ⟨g.1, g.2.1, g.2.2.1, Or.inl g.2.2.2⟩
    · show -1 ≤ (wss T B (tn T B n) n).1 ∧ (wss T B (tn T B n) n).1 ≤ n ∧ -1 ≤ (wss T B (tn T B n) n).2 ∧ ((wss T B (tn T B n) n).2 < B ∨ (wss T B (tn T B n) n).2 = -1)
      rw [g]
      exact ⟨by decide, by show (0 : Int) ≤ n; omega, by decide, Or.inr rfl⟩
    · show -1 ≤ (wss T B (tn T B n) n).1 ∧ (wss T B (tn T B n) n).1 ≤ n ∧ -1 ≤ (wss T B (tn T B n) n).2 ∧ ((wss T B (tn T B n) n).2 < B ∨ (wss T B (tn T B n) n).2 = -1)
      rw [g]
      exact ⟨by decide, by show (-1 : Int) ≤ n; omega, by decide, Or.inr rfl⟩
theorem lfr_s {T f : Nat → Int} {s k i : Nat} {w : Int} : lfr T f s (k + 1) i w = if s.testBit i = true then (if lbf T s (T i) 6 = s ∨ f (lbf T s (T i) 6) = -1 then -1 else lfr T f s k (i + 1) (mxI w (f (lbf T s (T i) 6)))) else lfr T f s k (i + 1) w := rfl
theorem lbf_s {T : Nat → Int} {s k : Nat} {g : Int} : lbf T s g (k + 1) = if s.testBit k = true ∧ T k = g then lbf T s g k ||| 2 ^ k else lbf T s g k := rfl
theorem wsr_s {T : Nat → Nat → Int} {f : Nat → Int} {s k b : Nat} {r : Int × Int} : wsr T f s (k + 1) b r = wsr T f s k (b + 1) (if lfr (fun t => T t b) f s 6 0 0 ≠ -1 ∧ (r.1 = -1 ∨ lfr (fun t => T t b) f s 6 0 0 < r.1) then (lfr (fun t => T t b) f s 6 0 0, (b : Int)) else r) := rfl
