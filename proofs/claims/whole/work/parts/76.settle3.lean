/-! what a call leaves whose rows nobody reads; settle in the model, the call -/
theorem ci_sc : ∀ p, (p = 2 ∨ p = 12) → ∀ x, x < 65 → ci p x < 52 ∨ ci p x = 64 ∨ ci p x = 65 := by
  intro p hp
  rcases hp with rfl | rfl <;> decide +kernel
theorem CI.sc {p : Nat} {A : aS} {S S' : z_St} (h : CI p A S) (hf : ∀ a, a < 52 ∨ a = 64 ∨ a = 65 → ∀ i, S'.1 a i = S.1 a i) (h2 : S'.2 = S.2) : CI p A S' := by
  obtain ⟨q1, q2, q3, q4, q5, q6⟩ := h
  refine ⟨q1, ?_, ?_, q4.f (fun x hx j _ => hf _ (ci_sc p q1 x hx) _), ?_, ?_⟩
  · rw [hf 0 (by omega)]; exact q2
  · rw [hf 0 (by omega)]; exact q3
  · intro b r hb hr q hq
    rw [h2]; exact q5 b r hb hr q hq
  · intro ha b r hb hr q hq
    rw [h2]; exact q6 ha b r hb hr q hq
def scr : List Nat := [95, 96, 101, 102, 103, 104, 105, 106, 107, 111, 113]
def scf : List Nat := [2, 3, 17, 26, 28, 29, 44, 57, 63, 67]
def tb4 (x : Nat) : Bool := decide (mn x = 0) || (decide (mi x = 70) && List.elem (mx x 0) scf && decide (mn x ≤ 1)) || (!(decide (mi x = 70)) && !(List.elem (mi x) scr))
theorem tb4_ok : ∀ x, x < 67 → tb4 x = true := by decide +kernel
theorem MI.sc {A : aS} {S S' : z_St} (h : MI A S) (hw : wf A) (h1 : ∀ i, List.elem i scf = true → S'.1 70 i = S.1 70 i) (h2 : ∀ a, a ≠ 70 → List.elem a scr = false → ∀ i, S'.1 a i = S.1 a i) : MI A S' := by
  refine ⟨h.1.f (fun x hx j hj => ?_), by rw [h1 63 rfl]; exact h.2⟩
  have hm := mD_le hw x hx
  have ht := tb4_ok x hx
  unfold tb4 at ht
  rw [decide_eq_false (show ¬ mn x = 0 by omega), Bool.false_or, Bool.or_eq_true, Bool.and_eq_true, Bool.and_eq_true, Bool.and_eq_true] at ht
  rcases ht with ⟨⟨g1, g2⟩, g3⟩ | ⟨g1, g2⟩
  · have g1 : mi x = 70 := of_decide_eq_true g1
    have g3 : mn x ≤ 1 := of_decide_eq_true g3
    have hj0 : j = 0 := by omega
    subst hj0
    rw [g1]
    exact h1 _ g2
  · exact h2 _ (by simpa using g1) (by simpa using g2) _
section SEM
variable {A : aS} {S S0 : z_St}
theorem m_lb {T : Nat → Int} {b s t : Nat} {w : Int} (hb : b < 10) (hs : s < 64) (ht : t < 6) (hT : ∀ t, t < 6 → S.1 112 (t * 10 + b) = iI (T t)) (hT2 : ∀ t, t < 6 → 0 ≤ T t ∧ T t ≤ 401) (d z : Nat) : ∀ (k i n : Nat), i + k = 6 → 3 * k + 1 ≤ n → ∃ m, n ≤ m + 3 * k + 1 ∧ z_R179 d n 30 z [some (.ref 70), some (.int (iI (s : Int))), some (.int (iI (b : Int))), some (.int (iI w)), some (.int (iI (t : Int))), some (.int (iI (lbf T s (T t) i : Int))), some (.int (iI (i : Int)))] [] S = z_R179 d m 93 z [some (.ref 70), some (.int (iI (s : Int))), some (.int (iI (b : Int))), some (.int (iI w)), some (.int (iI (t : Int))), some (.int (iI (lbf T s (T t) 6 : Int))), some (.int (iI ((6 : Nat) : Int)))] [] S := by
  intro k
  induction k with
  | zero =>
    intro i n hi hn
    obtain ⟨n, rfl⟩ : ∃ m, n = m + 1 := ⟨n - 1, by omega⟩
    have e : i = 6 := by omega
    subst e
    refine ⟨n, by omega, ?_⟩
    rw [zq_179_30, iI_n 6, if_pos (by rw [iI_le (by decide) (by decide) (by decide) (by decide)]; decide)]
  | succ k ih =>
    intro i n hi hn
    obtain ⟨n, rfl⟩ : ∃ m, n = m + 3 := ⟨n - 3, by omega⟩
    have e1 : ∀ j : Nat, nI 10 * iI (j : Int) + iI (b : Int) = iI ((j * 10 + b : Nat) : Int) := by
      intro j
      rw [iI_n, iI_mul, iI_add]
      congr 1
      omega
    have e2 : (i : Int) + ((1 : Nat) : Int) = ((i + 1 : Nat) : Int) := by omega
    have hl := lbf_64 T s (T t) (k := i) (by omega)
    have ht1 := hT2 i (by omega)
    have ht2 := hT2 t ht
    have hs1 := lbf_s (T := T) (s := s) (k := i) (g := T t)
    have no : ¬ (s.testBit i = true ∧ T i = T t) → ∃ m, n + 3 ≤ m + 3 * (k + 1) + 1 ∧ z_R179 d (n + 2) 83 z [some (.ref 70), some (.int (iI (s : Int))), some (.int (iI (b : Int))), some (.int (iI w)), some (.int (iI (t : Int))), some (.int (iI (lbf T s (T t) i : Int))), some (.int (iI (i : Int)))] [.int (iI (lbf T s (T t) i : Int))] S = z_R179 d m 93 z [some (.ref 70), some (.int (iI (s : Int))), some (.int (iI (b : Int))), some (.int (iI w)), some (.int (iI (t : Int))), some (.int (iI (lbf T s (T t) 6 : Int))), some (.int (iI ((6 : Nat) : Int)))] [] S := by
      intro g
      obtain ⟨m, g1, g2⟩ := ih (i + 1) n (by omega) (by omega)
      refine ⟨m, by omega, ?_⟩
      rw [zq_179_83, zq_179_84, or_0 _ hl, iI_n 1, iI_add, e2, ← g2, hs1, if_neg g]
    rw [zq_179_30, iI_n 6, if_neg (by rw [iI_le (by decide) (by decide) (by omega) (by omega)]; omega), bit_t s (by omega) i (by omega)]
    by_cases q : s.testBit i = true
    · rw [if_pos (b10.2 q), e1, ixN (by omega) (by decide), cond_true, e1, ixN (by omega) (by decide), cond_true, tN (by omega), tN (by omega), hT i (by omega), hT t ht]
      by_cases q2 : T i = T t
      · obtain ⟨m, g1, g2⟩ := ih (i + 1) (n + 1) (by omega) (by omega)
        refine ⟨m, by omega, ?_⟩
        rw [if_pos (by rw [q2]), zq_179_84, sh_t i (by omega), or_t _ hl i (by omega), iI_n 1, iI_add, e2]
        rw [hs1, if_pos ⟨q, q2⟩] at g2
        exact g2
      · rw [if_neg (by rw [iI_eq (by omega) (by omega) (by omega) (by omega)]; exact q2)]
        exact no (fun e => q2 e.2)
    · rw [if_neg (fun e => q (b10.1 e))]
      exact no (fun e => q e.1)
theorem m_lf {T f : Nat → Int} {b s : Nat} (hb : b < 10) (hs : s < 64) (hT : ∀ t, t < 6 → S.1 112 (t * 10 + b) = iI (T t)) (hT2 : ∀ t, t < 6 → 0 ≤ T t ∧ T t ≤ 401) (hf : ∀ q, q < s → q &&& s = q → S.1 113 q = iI (f q)) (hf2 : ∀ q, q < s → q &&& s = q → -1 ≤ f q ∧ f q ≤ q) (d z : Nat) : ∀ (k i n : Nat) (w : Int) (x5 x6 : Option Value), i + k = 6 → 25 * k + 3 ≤ n → 0 ≤ w → w < 64 → z_R179 (d + 1) n 5 z [some (.ref 70), some (.int (iI (s : Int))), some (.int (iI (b : Int))), some (.int (iI w)), some (.int (iI (i : Int))), x5, x6] [] S = some (.inl (some (.int (iI (lfr T f s k i w)))), S) := by
  intro k
  induction k with
  | zero =>
    intro i n w x5 x6 hi hn h0 h1
    obtain ⟨n, rfl⟩ : ∃ m, n = m + 2 := ⟨n - 2, by omega⟩
    have e : i = 6 := by omega
    subst e
    rw [zq_179_5, iI_n 6, if_pos (by rw [iI_le (by decide) (by decide) (by decide) (by decide)]; decide), zq_179_130, iI_n 1, iI_add]
    rfl
  | succ k ih =>
    intro i n w x5 x6 hi hn h0 h1
    obtain ⟨n, rfl⟩ : ∃ m, n = m + 25 := ⟨n - 25, by omega⟩
    have e2 : (i : Int) + ((1 : Nat) : Int) = ((i + 1 : Nat) : Int) := by omega
    have ht := hT2 i (by omega)
    rw [lfr_s, zq_179_5, iI_n 6, if_neg (by rw [iI_le (by decide) (by decide) (by omega) (by omega)]; omega), bit_t s (by omega) i (by omega)]
    by_cases q : s.testBit i = true
    · have hl := lbf_64 T s (T i) (k := 6) (by omega)
      have hb1 := lbf_sub T s (T i) 6
      have hb2 := sub_le hb1
      obtain ⟨m, g1, g2⟩ := m_lb (T := T) (b := b) (s := s) (t := i) (w := w) hb hs (by omega) hT hT2 (d + 1) z 6 0 (n + 23) (by omega) (by omega)
      obtain ⟨m, rfl⟩ : ∃ m', m = m' + 3 := ⟨m - 3, by omega⟩
      have g3 : z_R179 (d + 1) (n + 23) 30 z [some (.ref 70), some (.int (iI (s : Int))), some (.int (iI (b : Int))), some (.int (iI w)), some (.int (iI (i : Int))), some (.int (nI 0)), some (.int (nI 0))] [] S = _ := g2
      rw [if_neg (by rw [b01]; exact fun e => e q), if_pos q, zq_179_24, g3, zq_179_93]
      by_cases q2 : lbf T s (T i) 6 = s
      · rw [if_pos (by rw [q2]), if_pos (Or.inl q2), zq_179_110, nm1]
      · have hf3 := hf2 _ (by omega) hb1
        rw [if_neg (by rw [iI_eq (by omega) (by omega) (by omega) (by omega)]; omega), ixN hl (by decide), cond_true, tN (by omega), hf _ (by omega) hb1, nm1]
        by_cases q3 : f (lbf T s (T i) 6) = -1
        · rw [if_pos (by rw [q3]), if_pos (Or.inr q3), zq_179_110, nm1]
        · have hm := mxI_ge w (f (lbf T s (T i) 6))
          have ho := mxI_or w (f (lbf T s (T i) 6))
          rw [if_neg (by rw [iI_eq (by omega) (by omega) (by omega) (by omega)]; omega), if_neg (by omega), zq_179_112, ixN hl (by decide), cond_true, tN (by omega), hf _ (by omega) hb1, zy_187 d _ _ S (by omega) (by omega) (by omega) (by omega), cli_i, zq_179_124, iI_n 1, iI_add, e2]
          exact ih (i + 1) m _ none none (by omega) (by omega) (by omega) (by omega)
    · rw [if_pos (by rw [b01]; exact q), if_neg q, zq_179_124, iI_n 1, iI_add, e2]
      exact ih (i + 1) (n + 23) w none none (by omega) (by omega) h0 h1
def mS (S0 S : z_St) (f : Nat → Int) : Prop := (∀ q, q < 64 → S.1 113 q = iI (f q)) ∧ (∀ a i, a ≠ 113 → S.1 a i = S0.1 a i) ∧ S.2 = S0.2
theorem mS.f {f : Nat → Int} (h : mS S0 S f) {s : Nat} (v : Int) (hs : s < 64) : mS S0 (z_w1 S.1 113 s (iI v), S.2) (uf f s v) := by
  refine ⟨fun q hq => ?_, fun a i h1 => ?_, h.2.2⟩
  · dsimp only
    rw [z_w1_r]
    by_cases e : q = s
    · rw [if_pos ⟨rfl, e⟩, e, uf_s]
    · rw [if_neg (fun x => e x.2), uf_o e]; exact h.1 q hq
  · dsimp only
    rw [z_w1_r, if_neg (by omega)]; exact h.2.1 a i h1
theorem m_wr {T : Nat → Nat → Int} {f0 : Nat → Int} {s B : Nat} {a w : Int} (h0 : 0 < s) (hpc : 2 ≤ pc6 s) (hB : B ≤ 10) (hs : s < 64) (h2 : S0.1 70 2 = iI (B : Int)) (hT : ∀ b t, b < B → t < 6 → S0.1 112 (t * 10 + b) = iI (T t b)) (hT2 : ∀ b t, b < B → t < 6 → 0 ≤ T t b ∧ T t b ≤ 401) (hf2 : ∀ q, q < s → q &&& s = q → -1 ≤ f0 q ∧ f0 q ≤ q) (d z : Nat) : ∀ (k b n : Nat) (S : z_St) (r : Int × Int) (x6 : Option Value), b + k = B → 3 * k + 1 ≤ n → -1 ≤ r.1 → r.1 ≤ s → mS S0 S (uf f0 s r.1) → ∃ S' m, n ≤ m + 3 * k + 1 ∧ z_R180 (d + 2) n 73 z [some (.ref 70), some (.int (iI a)), some (.int (iI w)), some (.int (iI r.2)), some (.int (iI (s : Int))), some (.int (iI (b : Int))), x6] [] S = z_R180 (d + 2) m 151 z [some (.ref 70), some (.int (iI a)), some (.int (iI w)), some (.int (iI (wsr T f0 s k b r).2)), some (.int (iI (s : Int))), some (.int (iI (B : Int))), none] [] S' ∧ mS S0 S' (uf f0 s (wsr T f0 s k b r).1) := by
  intro k
  induction k with
  | zero =>
    intro b n S r x6 hb hn r0 r1 h
    obtain ⟨n, rfl⟩ : ∃ m, n = m + 1 := ⟨n - 1, by omega⟩
    have e : b = B := by omega
    subst e
    refine ⟨S, n, by omega, ?_, h⟩
    rw [zq_180_73, h.2.1 70 2 (by decide), h2, if_pos (by rw [iI_le (by omega) (by omega) (by omega) (by omega)]; omega)]
    rfl
  | succ k ih =>
    intro b n S r x6 hb hn r0 r1 h
    obtain ⟨n, rfl⟩ : ∃ m, n = m + 3 := ⟨n - 3, by omega⟩
    have hp := pc6_le s
    have e2 : (b : Int) + ((1 : Nat) : Int) = ((b + 1 : Nat) : Int) := by omega
    have hl := lfr_b (T := fun t => T t b) hf2 6 0 0 (by decide) (by omega)
    have e1 : z_ew (d + 2) 179 [.ref 70, .int (iI (s : Int)), .int (iI (b : Int))] S = some (.inl (some (.int (iI (lfr (fun t => T t b) f0 s 6 0 0)))), S) := by
      rw [zx_179]
      exact m_lf (T := fun t => T t b) (by omega) hs (fun t ht => by rw [h.2.1 112 _ (by decide)]; exact hT b t (by omega) ht) (fun t ht => hT2 b t (by omega) ht) (fun q h1 h3 => by rw [h.1 q (by omega), uf_o (by omega)]) hf2 d 0 6 0 999999 0 none none (by omega) (by omega) (by decide) (by decide)
    rw [wsr_s, zq_180_73, h.2.1 70 2 (by decide), h2, if_neg (by rw [iI_le (by omega) (by omega) (by omega) (by omega)]; omega), zy_178 (d + 1) s S hs, cli_i, nm1, iI_n 1, if_neg (by rw [iI_le (by omega) (by omega) (by decide) (by decide)]; omega), e1, cli_i]
    have skip : ∀ (x6 : Option Value), ∃ S' m, n + 3 ≤ m + 3 * (k + 1) + 1 ∧ z_R180 (d + 2) (n + 2) 145 z [some (.ref 70), some (.int (iI a)), some (.int (iI w)), some (.int (iI r.2)), some (.int (iI (s : Int))), some (.int (iI (b : Int))), x6] [] S = z_R180 (d + 2) m 151 z [some (.ref 70), some (.int (iI a)), some (.int (iI w)), some (.int (iI (wsr T f0 s k (b + 1) r).2)), some (.int (iI (s : Int))), some (.int (iI (B : Int))), none] [] S' ∧ mS S0 S' (uf f0 s (wsr T f0 s k (b + 1) r).1) := by
      intro x6
      rw [zq_180_145, iI_n 1, iI_add, e2]
      obtain ⟨S', m, g1, g2⟩ := ih (b + 1) (n + 1) S r none (by omega) (by omega) r0 r1 h
      exact ⟨S', m, by omega, g2⟩
    have put : ∃ S' m, n + 3 ≤ m + 3 * (k + 1) + 1 ∧ z_R180 (d + 2) (n + 2) 133 z [some (.ref 70), some (.int (iI a)), some (.int (iI w)), some (.int (iI r.2)), some (.int (iI (s : Int))), some (.int (iI (b : Int))), some (.int (iI (lfr (fun t => T t b) f0 s 6 0 0)))] [] S = z_R180 (d + 2) m 151 z [some (.ref 70), some (.int (iI a)), some (.int (iI w)), some (.int (iI (wsr T f0 s k (b + 1) (lfr (fun t => T t b) f0 s 6 0 0, (b : Int))).2)), some (.int (iI (s : Int))), some (.int (iI (B : Int))), none] [] S' ∧ mS S0 S' (uf f0 s (wsr T f0 s k (b + 1) (lfr (fun t => T t b) f0 s 6 0 0, (b : Int))).1) := by
      rw [zq_180_133, ixN hs (by decide), cond_true, tN (by omega), zq_180_145, iI_n 1, iI_add, e2]
      have h5 := h.f (lfr (fun t => T t b) f0 s 6 0 0) hs
      rw [uf_uf] at h5
      obtain ⟨S', m, g1, g2⟩ := ih (b + 1) n _ (lfr (fun t => T t b) f0 s 6 0 0, (b : Int)) none (by omega) (by omega) hl.1 hl.2 h5
      exact ⟨S', m, by omega, g2⟩
    by_cases q : lfr (fun t => T t b) f0 s 6 0 0 = -1
    · rw [if_pos (by rw [q]), if_neg (fun e => e.1 q)]
      exact skip _
    · rw [if_neg (by rw [iI_eq (by omega) (by omega) (by decide) (by decide)]; exact q), ixN hs (by decide), cond_true, tN (by omega), h.1 s hs, uf_s]
      by_cases q2 : r.1 = -1
      · rw [if_pos (by rw [q2]), if_pos ⟨q, Or.inl q2⟩]
        exact put
      · rw [if_neg (by rw [iI_eq (by omega) (by omega) (by decide) (by decide)]; exact q2), cond_true]
        by_cases q3 : lfr (fun t => T t b) f0 s 6 0 0 < r.1
        · rw [if_pos (by rw [iI_lt (by omega) (by omega) (by omega) (by omega)]; omega), if_pos ⟨q, Or.inr q3⟩]
          exact put
        · rw [if_neg (by rw [iI_lt (by omega) (by omega) (by omega) (by omega)]; omega), if_neg (by omega)]
          exact skip _
theorem m_wg {T : Nat → Nat → Int} {a B : Nat} {w : Int} (hw0 : w = 0 ∨ w = 1) (hB : B ≤ 10) (ha : a < 64) (h2 : S0.1 70 2 = iI (B : Int)) (hT : ∀ b t, b < B → t < 6 → S0.1 112 (t * 10 + b) = iI (T t b)) (hT2 : ∀ b t, b < B → t < 6 → 0 ≤ T t b ∧ T t b ≤ 401) (d z : Nat) : ∀ (k s n : Nat) (S : z_St) (f : Nat → Int) (v : Int) (x5 x6 : Option Value), s + k = a + 1 → 40 * k + 4 ≤ n → (∀ q, q < s → f q = (ff T B q).1) → (k = 0 → v = (ff T B a).2) → mS S0 S f → ∃ S' f', z_R180 (d + 2) n 41 z [some (.ref 70), some (.int (iI (a : Int))), some (.int (iI w)), some (.int (iI v)), some (.int (iI (s : Int))), x5, x6] [] S = some (.inl (some (.int (iI (if w = 0 then (ff T B a).1 else (ff T B a).2)))), S') ∧ mS S0 S' f' := by
  intro k
  induction k with
  | zero =>
    intro s n S f v x5 x6 hi hn hq hv h
    obtain ⟨n, rfl⟩ : ∃ m, n = m + 4 := ⟨n - 4, by omega⟩
    refine ⟨S, f, ?_, h⟩
    rw [zq_180_41, if_pos (by rw [iI_lt (by omega) (by omega) (by omega) (by omega)]; omega), zq_180_157, iI_0]
    rcases hw0 with rfl | rfl
    · rw [if_pos rfl, ixN ha (by decide), cond_true, tN (by omega), zq_180_171, h.1 a ha, hq a (by omega), if_pos rfl]
    · rw [if_neg (by rw [iI_eq (by decide) (by decide) (by decide) (by decide)]; decide), zq_180_170, zq_180_171, hv rfl, if_neg (by decide)]
  | succ k ih =>
    intro s n S f v x5 x6 hi hn hq hv h
    obtain ⟨n, rfl⟩ : ∃ m, n = m + 40 := ⟨n - 40, by omega⟩
    have hp := pc6_le s
    have e2 : (s : Int) + ((1 : Nat) : Int) = ((s + 1 : Nat) : Int) := by omega
    have hs : s < 64 := by omega
    have he : wss T B f s = ff T B s := ff_e (fun x h1 _ => hq x h1)
    have hb2 : ∀ q, q < s → q &&& s = q → -1 ≤ f q ∧ f q ≤ q := fun q h1 _ => by
      rw [hq q h1]
      have := ff_b T B 64 q (by omega)
      exact ⟨this.1, this.2.1⟩
    have fin : ∀ (m : Nat) (S1 : z_St) (r : Int × Int) (x5 : Option Value), 40 * k + 5 ≤ m → r = wss T B f s → mS S0 S1 (uf f s r.1) → ∃ S' f', z_R180 (d + 2) m 151 z [some (.ref 70), some (.int (iI (a : Int))), some (.int (iI w)), some (.int (iI r.2)), some (.int (iI (s : Int))), x5, none] [] S1 = some (.inl (some (.int (iI (if w = 0 then (ff T B a).1 else (ff T B a).2)))), S') ∧ mS S0 S' f' := by
      intro m S1 r x5 hm hr h1
      obtain ⟨m, rfl⟩ : ∃ m', m = m' + 1 := ⟨m - 1, by omega⟩
      rw [he] at hr
      subst hr
      rw [zq_180_151, iI_n 1, iI_add, e2]
      refine ih (s + 1) m S1 _ _ none none (by omega) (by omega) (fun q hq2 => ?_) (fun hk => ?_) h1
      · by_cases e : q = s
        · rw [e, uf_s]
        · rw [uf_o e]
          exact hq q (by omega)
      · have : s = a := by omega
        rw [this]
    rw [zq_180_41, if_neg (by rw [iI_lt (by omega) (by omega) (by omega) (by omega)]; omega), zy_178 (d + 1) s S hs, cli_i, iI_n 2]
    by_cases q : pc6 s ≤ 1
    · have hr : ((0 : Int), (-1 : Int)) = wss T B f s := by unfold wss; rw [if_pos q]
      rw [if_neg (by rw [iI_le (by decide) (by decide) (by omega) (by omega)]; omega), zq_180_67, ixN hs (by decide), cond_true, tN (by omega), nm1]
      have h5 := h.f 0 hs
      have h6 : mS S0 (z_w1 S.1 113 s (nI 0), S.2) (uf f s (0, (-1 : Int)).1) := h5
      rw [zq_180_73]
      dsimp only
      have hB0 : z_w1 S.1 113 s (nI 0) 70 2 = iI (B : Int) := (h6.2.1 70 2 (by decide)).trans h2
      simp only [hB0]
      by_cases qB : B = 0
      · rw [if_pos (by rw [iI_n 0, iI_le (by omega) (by omega) (by omega) (by omega)]; omega)]
        exact fin (n + 37) _ (0, -1) _ (by omega) hr h6
      · rw [if_neg (by rw [iI_n 0, iI_le (by omega) (by omega) (by omega) (by omega)]; omega), zy_178 (d + 1) s _ hs, cli_i, iI_n 1, if_pos (by rw [iI_le (by omega) (by omega) (by decide) (by decide)]; omega)]
        exact fin (n + 37) _ (0, -1) _ (by omega) hr h6
    · have h0 : 0 < s := by
        by_cases e : s = 0
        · rw [e, kb_0] at q
          omega
        · omega
      have hr : wsr T f s B 0 (-1, -1) = wss T B f s := by unfold wss; rw [if_neg q]
      rw [if_pos (by rw [iI_le (by decide) (by decide) (by omega) (by omega)]; omega), zq_180_66, zq_180_67, ixN hs (by decide), cond_true, tN (by omega), nm1]
      obtain ⟨S1, m, g1, g2, g3⟩ := m_wr (T := T) (f0 := f) (s := s) (B := B) (a := (a : Int)) (w := w) h0 (by omega) hB hs h2 hT hT2 hb2 d z B 0 (n + 37) _ (-1, -1) none (by omega) (by omega) (by decide) (by show (-1 : Int) ≤ s; omega) (h.f (-1) hs)
      have g4 : z_R180 (d + 2) (n + 37) 73 z [some (.ref 70), some (.int (iI (a : Int))), some (.int (iI w)), some (.int (iI (-1))), some (.int (iI (s : Int))), some (.int (nI 0)), none] [] (z_w1 S.1 113 s (iI (-1)), S.2) = _ := g2
      rw [g4]
      exact fin m S1 _ _ (by omega) hr g3
end SEM
theorem o_settle (a c : Int32) : OpW 210 180 [.int a, .int c] := by
  intro S ⟨p, A, hC, hM, hw⟩
  obtain ⟨u, h1, h2, rfl⟩ := iI_of a
  obtain ⟨w, h3, h4, rfl⟩ := iI_of c
  have hb := hw.b
  have hT2 : ∀ j : Nat, j < 60 → 0 ≤ A 38 j ∧ A 38 j ≤ 401 := hw.L.2.2.2.2.2.2.2.2.2.2.2.2.2
  obtain ⟨B, hB⟩ : ∃ B : Nat, A 2 0 = B := ⟨(A 2 0).toNat, by omega⟩
  by_cases q1 : 0 ≤ w ∧ w ≤ 1
  · by_cases q2 : 0 ≤ u ∧ u < 64
    · obtain ⟨s, rfl⟩ : ∃ s : Nat, u = s := ⟨u.toNat, by omega⟩
      obtain ⟨T, hT⟩ : ∃ T : Nat → Nat → Int, T = fun t b => A 38 (t * 10 + b) := ⟨_, rfl⟩
      have hT3 : ∀ b t, b < B → t < 6 → 0 ≤ T t b ∧ T t b ≤ 401 := fun b t h5 h6 => by rw [hT]; exact hT2 _ (by omega)
      have hc0 : cS S S (fun q => (S.1 68 q).toInt) (fun q => (S.1 69 q).toInt) := ⟨fun q _ => (fb_asI _).symm, fun q _ => (fb_asI _).symm, fun _ _ _ _ => rfl, rfl⟩
      obtain ⟨S1, f', g', e1, e2, e3, e4⟩ := c_wg (T := T) (a := s) (B := B) (S0 := S) (by omega) (by omega) (fun b t h5 h6 => by rw [hT]; exact c_38 hC (by omega)) hT3 994 0 (s + 1) 0 999999 S _ _ (by omega) (by omega) (fun q hq => by omega) hc0
      have hC1 : CI p A S1 := hC.sc (fun a ha i => e2.2.2.1 a i (by omega) (by omega)) e2.2.2.2
      have hf : fC S S1 := fun a ha => ⟨funext (fun i => e2.2.2.1 a i (by omega) (by omega)), by rw [e2.2.2.2]⟩
      refine opW_mk (cm := 96) (o := some (if w = 0 then (ff T B s).1 else (ff T B s).2)) (p' := p) (A' := A) (S1 := S1) (fun _ _ e => w_210 e) (fun _ e => w_210x0 e) hw hM ?_ hf hC1 hw (fun S2 h => ?_)
      · rw [zx_96 998, iI_0, iI_n 1, if_neg (by rw [iI_lt h3 h4 (by decide) (by decide)]; omega), if_pos (by rw [iI_le h3 h4 (by decide) (by decide)]; omega), zq_96_20, iI_0, iI_n 64, if_neg (by rw [iI_lt h1 h2 (by decide) (by decide)]; omega), if_pos (by rw [iI_lt h1 h2 (by decide) (by decide)]; omega), zq_96_41, hC.p1, hC.p2, hC.p3, c_2 hC, hB, zx_38 997]
        have e1' : z_R38 997 999999 3 0 [some (.ref 67), some (.ref 36), some (.int (iI (B : Int))), some (.int (iI (s : Int))), some (.int (nI 0))] [] S = some (.inl none, S1) := e1
        rw [e1', clv_v, cond_false, cond_true, iI_0]
        have q3 : w = 0 ∨ w = 1 := by omega
        rcases q3 with rfl | rfl
        · rw [if_pos rfl, ixN (by omega) (by decide), cond_true, tN (by omega), zq_96_88, e2.1 s (by omega), e3]
          rfl
        · rw [if_neg (by rw [iI_eq (by decide) (by decide) (by decide) (by decide)]; decide), zq_96_79, ixN (by omega) (by decide), cond_true, tN (by omega), zq_96_88, e2.2.1 s (by omega), e4]
          rfl
      · have h0 : MI A (z_w1 S2.1 70 1 (nI 0), S2.2) := h.code hw
        obtain ⟨S0, hS0⟩ : ∃ S0 : z_St, S0 = (z_w1 S2.1 70 1 (nI 0), S2.2) := ⟨_, rfl⟩
        have h0' : MI A S0 := by rw [hS0]; exact h0
        have hm0 : mS S0 S0 (fun q => (S0.1 113 q).toInt) := ⟨fun q _ => (fb_asI _).symm, fun _ _ _ => rfl, rfl⟩
        obtain ⟨S3, f3, e5, e6⟩ := m_wg (T := T) (a := s) (B := B) (w := w) (S0 := S0) (by omega) (by omega) (by omega) (by rw [m_2 h0', hB]) (fun b t h5 h6 => by rw [hT]; exact m_38 h0' (by omega)) hT3 997 0 (s + 1) 0 999997 S0 _ (-1) none none (by omega) (by omega) (fun q hq => by omega) (fun e => by omega) hm0
        refine ⟨S3, ?_, ?_, h0'.sc hw (fun i _ => e6.2.1 70 i (by decide)) (fun a _ h2 i => e6.2.1 a i (by rintro rfl; exact absurd h2 (by decide))), ?_⟩
        · have e5' : z_R180 999 999997 41 0 [some (.ref 70), some (.int (iI (s : Int))), some (.int (iI w)), some (.int (-nI 1)), some (.int (nI 0)), none, none] [] S0 = _ := e5
          rw [zx_180 999, iI_0, iI_n 1, if_neg (by rw [iI_lt h3 h4 (by decide) (by decide)]; omega), if_pos (by rw [iI_le h3 h4 (by decide) (by decide)]; omega), ← hS0, zq_180_20, iI_n 0, iI_n 63, zy_112 998 s _ _ S0 h1 h2 (by decide) (by decide) (by decide) (by decide), cli_i, if_neg (by rw [b01]; omega), zq_180_36, e5']
          rfl
        · intro a ha
          refine ⟨funext (fun i => ?_), ?_⟩
          · rw [e6.2.1 a i (by omega), hS0]
            dsimp only
            rw [z_w1_r, if_neg (by omega)]
          · rw [e6.2.2, hS0]
        · rw [e6.2.1 70 1 (by decide), hS0]
          exact cdz S2.1
    · have hx : z_ew 999 96 [.ref 0, .int (iI u), .int (iI w)] S = some (.inr 1, S) := by
        rw [zx_96 998, iI_0, iI_n 1, if_neg (by rw [iI_lt h3 h4 (by decide) (by decide)]; omega), if_pos (by rw [iI_le h3 h4 (by decide) (by decide)]; omega), zq_96_20, iI_0, iI_n 64]
        by_cases g : u < 0
        · rw [if_pos (by rw [iI_lt h1 h2 (by decide) (by decide)]; exact g), zq_96_30]
        · rw [if_neg (by rw [iI_lt h1 h2 (by decide) (by decide)]; exact g), if_neg (by rw [iI_lt h1 h2 (by decide) (by decide)]; omega), zq_96_30]
      refine ⟨2, iI 0, S, (z_w1 S.1 70 1 (nI 2), S.2), w_210x1 hx, ?_, ?_, fun e => absurd e (by decide), p, A, hC.m (fM_w1 (by omega) (by omega)), hM.code hw, hw⟩
      · show z_ew 1000 180 [.ref 70, .int (iI u), .int (iI w)] S = _
        rw [zx_180 999, iI_0, iI_n 1, if_neg (by rw [iI_lt h3 h4 (by decide) (by decide)]; omega), if_pos (by rw [iI_le h3 h4 (by decide) (by decide)]; omega), zq_180_20, iI_n 0, iI_n 63, zy_112 998 u _ _ _ h1 h2 (by decide) (by decide) (by decide) (by decide), cli_i, if_pos (by rw [b01]; omega), zx_111 998, cli_i, z_w1_w1]
        rfl
      · dsimp only
        rw [z_w1_r, if_pos ⟨rfl, rfl⟩]
        rfl
  · refine opW_mk (cm := 96) (o := none) (p' := p) (A' := A) (S1 := S) (fun _ _ e => w_210 e) (fun _ e => w_210x0 e) hw hM ?_ (fC.rf S) hC hw (fun S2 h => mQ_same hw h ?_)
    · rw [zx_96 998, iI_0, iI_n 1]
      by_cases g : w < 0
      · rw [if_pos (by rw [iI_lt h3 h4 (by decide) (by decide)]; exact g), zq_96_9]
        rfl
      · rw [if_neg (by rw [iI_lt h3 h4 (by decide) (by decide)]; exact g), if_neg (by rw [iI_le h3 h4 (by decide) (by decide)]; omega), zq_96_9]
        rfl
    · rw [zx_180 999, iI_0, iI_n 1]
      by_cases g : w < 0
      · rw [if_pos (by rw [iI_lt h3 h4 (by decide) (by decide)]; exact g), zq_180_14, zx_111 998, cli_i, z_w1_w1]
        rfl
      · rw [if_neg (by rw [iI_lt h3 h4 (by decide) (by decide)]; exact g), if_neg (by rw [iI_le h3 h4 (by decide) (by decide)]; omega), zq_180_14, zx_111 998, cli_i, z_w1_w1]
        rfl
