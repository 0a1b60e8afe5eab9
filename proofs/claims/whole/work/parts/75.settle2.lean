/-! settle: the walks -/
section SET
variable {p : Nat} {A : aS} {S S0 : z_St}
theorem and_t : ∀ u : Nat, u < 64 → ∀ v : Nat, v < 64 → iI (u : Int) &&& iI (v : Int) = iI ((u &&& v : Nat) : Int) := by decide +kernel
theorem sh_t : ∀ i : Nat, i < 6 → nI 1 <<< (iI (i : Int) &&& 31) = iI ((2 ^ i : Nat) : Int) := by decide +kernel
theorem or_t : ∀ u : Nat, u < 64 → ∀ i : Nat, i < 6 → iI (u : Int) ||| iI ((2 ^ i : Nat) : Int) = iI ((u ||| 2 ^ i : Nat) : Int) := by decide +kernel
theorem or_0 : ∀ u : Nat, u < 64 → iI (u : Int) ||| nI 0 = iI (u : Int) := by decide +kernel
theorem lbf_64 (T : Nat → Int) (s : Nat) (g : Int) {k : Nat} (hk : k ≤ 6) : lbf T s g k < 64 := by
  have h1 := lbf_lt T s g k
  have h2 : 2 ^ k ≤ 2 ^ 6 := Nat.pow_le_pow_right (by decide) hk
  omega
theorem c_lb {T : Nat → Int} {b s : Nat} {g : Int} (hb : b < 10) (hs : s < 64) (hT : ∀ t, t < 6 → S.1 36 (t * 10 + b) = iI (T t)) (hT2 : ∀ t, t < 6 → 0 ≤ T t ∧ T t ≤ 401) (hg : 0 ≤ g ∧ g ≤ 401) (d z : Nat) : ∀ (k i n : Nat), i + k = 6 → 2 * k + 2 ≤ n → z_R41 d n 6 z [some (.ref 36), some (.int (iI (b : Int))), some (.int (iI (s : Int))), some (.int (iI g)), some (.int (iI (lbf T s g i : Int))), some (.int (iI (i : Int)))] [] S = some (.inl (some (.int (iI (lbf T s g 6 : Int)))), S) := by
  intro k
  induction k with
  | zero =>
    intro i n hi hn
    obtain ⟨n, rfl⟩ : ∃ m, n = m + 2 := ⟨n - 2, by omega⟩
    have e : i = 6 := by omega
    subst e
    rw [zq_41_6, iI_n 6, if_pos (by rw [iI_le (by decide) (by decide) (by decide) (by decide)]; decide), zq_41_51]
  | succ k ih =>
    intro i n hi hn
    obtain ⟨n, rfl⟩ : ∃ m, n = m + 2 := ⟨n - 2, by omega⟩
    have e1 : iI (i : Int) * nI 10 + iI (b : Int) = iI ((i * 10 + b : Nat) : Int) := by
      rw [iI_n, iI_mul, iI_add]
      congr 1
    have e2 : (i : Int) + ((1 : Nat) : Int) = ((i + 1 : Nat) : Int) := by omega
    have hl := lbf_64 T s g (k := i) (by omega)
    have ht := hT2 i (by omega)
    have h3 := ih (i + 1) n (by omega) (by omega)
    rw [zq_41_6, iI_n 6, if_neg (by rw [iI_le (by decide) (by decide) (by omega) (by omega)]; omega), bit_t s (by omega) i (by omega)]
    rw [lbf_s] at h3
    by_cases q : s.testBit i = true
    · rw [if_pos (b10.2 q), e1, ixN (by omega) (by decide), cond_true, tN (by omega), hT i (by omega)]
      by_cases q2 : T i = g
      · rw [if_pos ⟨q, q2⟩] at h3
        rw [if_pos (by rw [q2]), bit_s _ (by omega) i (by omega), zq_41_45, iI_n 1, iI_add, e2]
        exact h3
      · rw [if_neg (fun e => q2 e.2)] at h3
        rw [if_neg (by rw [iI_eq (by omega) (by omega) (by omega) (by omega)]; exact q2), zq_41_45, iI_n 1, iI_add, e2]
        exact h3
    · rw [if_neg (fun e => q e.1)] at h3
      rw [if_neg (fun e => q (b10.1 e)), zq_41_45, iI_n 1, iI_add, e2]
      exact h3
theorem c_lbE {T : Nat → Int} {b s : Nat} {g : Int} (hb : b < 10) (hs : s < 64) (hT : ∀ t, t < 6 → S.1 36 (t * 10 + b) = iI (T t)) (hT2 : ∀ t, t < 6 → 0 ≤ T t ∧ T t ≤ 401) (hg : 0 ≤ g ∧ g ≤ 401) (d : Nat) : z_ew (d + 1) 41 [.ref 36, .int (iI (b : Int)), .int (iI (s : Int)), .int (iI g)] S = some (.inl (some (.int (iI (lbf T s g 6 : Int)))), S) := by
  rw [zx_41]
  exact c_lb hb hs hT hT2 hg d 0 6 0 999999 (by omega) (by omega)
theorem c_lf {T f : Nat → Int} {b s : Nat} (hb : b < 10) (hs : s < 64) (hT : ∀ t, t < 6 → S.1 36 (t * 10 + b) = iI (T t)) (hT2 : ∀ t, t < 6 → 0 ≤ T t ∧ T t ≤ 401) (hf : ∀ q, q < s → q &&& s = q → S.1 68 q = iI (f q)) (hf2 : ∀ q, q < s → q &&& s = q → -1 ≤ f q ∧ f q ≤ q) (d z : Nat) : ∀ (k i n : Nat) (w : Int) (x6 : Option Value), i + k = 6 → 3 * k + 3 ≤ n → 0 ≤ w → w < 64 → z_R40 (d + 1) n 6 z [some (.ref 67), some (.ref 36), some (.int (iI (b : Int))), some (.int (iI (s : Int))), some (.int (iI w)), some (.int (iI (i : Int))), x6] [] S = some (.inl (some (.int (iI (lfr T f s k i w)))), S) := by
  intro k
  induction k with
  | zero =>
    intro i n w x6 hi hn h0 h1
    obtain ⟨n, rfl⟩ : ∃ m, n = m + 2 := ⟨n - 2, by omega⟩
    have e : i = 6 := by omega
    subst e
    rw [zq_40_6, iI_n 6, if_pos (by rw [iI_le (by decide) (by decide) (by decide) (by decide)]; decide), zq_40_79, iI_n 1, iI_add]
    rfl
  | succ k ih =>
    intro i n w x6 hi hn h0 h1
    obtain ⟨n, rfl⟩ : ∃ m, n = m + 3 := ⟨n - 3, by omega⟩
    have e1 : iI (i : Int) * nI 10 + iI (b : Int) = iI ((i * 10 + b : Nat) : Int) := by
      rw [iI_n, iI_mul, iI_add]
      congr 1
    have e2 : (i : Int) + ((1 : Nat) : Int) = ((i + 1 : Nat) : Int) := by omega
    have ht := hT2 i (by omega)
    rw [lfr_s, zq_40_6, iI_n 6, if_neg (by rw [iI_le (by decide) (by decide) (by omega) (by omega)]; omega), bit_t s (by omega) i (by omega)]
    by_cases q : s.testBit i = true
    · have hl := lbf_64 T s (T i) (k := 6) (by omega)
      have hb1 := lbf_sub T s (T i) 6
      have hb2 := sub_le hb1
      rw [if_pos (b10.2 q), if_pos q, e1, ixN (by omega) (by decide), cond_true, tN (by omega), hT i (by omega), c_lbE hb hs hT hT2 ht d, cli_i]
      by_cases q2 : lbf T s (T i) 6 = s
      · rw [if_pos (by rw [q2]), if_pos (Or.inl q2), zq_40_57, nm1]
      · have hf3 := hf2 _ (by omega) hb1
        rw [if_neg (by rw [iI_eq (by omega) (by omega) (by omega) (by omega)]; omega), ixN hl (by decide), cond_true, tN (by omega), hf _ (by omega) hb1, nm1]
        by_cases q3 : f (lbf T s (T i) 6) = -1
        · rw [if_pos (by rw [q3]), if_pos (Or.inr q3), zq_40_57, nm1]
        · have hm := mxI_ge w (f (lbf T s (T i) 6))
          have ho := mxI_or w (f (lbf T s (T i) 6))
          rw [if_neg (by rw [iI_eq (by omega) (by omega) (by omega) (by omega)]; omega), if_neg (by omega), zq_40_59, ixN hl (by decide), cond_true, tN (by omega), hf _ (by omega) hb1, zy_187 d _ _ S (by omega) (by omega) (by omega) (by omega), cli_i, zq_40_73, iI_n 1, iI_add, e2]
          exact ih (i + 1) n _ none (by omega) (by omega) (by omega) (by omega)
    · rw [if_neg (fun e => q (b10.1 e)), if_neg q, zq_40_73, iI_n 1, iI_add, e2]
      exact ih (i + 1) (n + 1) w none (by omega) (by omega) h0 h1
/-- the rows of the class: fewest looks, first book -/
def cS (S0 S : z_St) (f g : Nat → Int) : Prop := (∀ q, q < 64 → S.1 68 q = iI (f q)) ∧ (∀ q, q < 64 → S.1 69 q = iI (g q)) ∧ (∀ a i, a ≠ 68 → a ≠ 69 → S.1 a i = S0.1 a i) ∧ S.2 = S0.2
def uf (f : Nat → Int) (s : Nat) (v : Int) : Nat → Int := fun q => if q = s then v else f q
theorem uf_o {f : Nat → Int} {s q : Nat} {v : Int} (h : q ≠ s) : uf f s v q = f q := if_neg h
theorem uf_s {f : Nat → Int} {s : Nat} {v : Int} : uf f s v s = v := if_pos rfl
theorem uf_uf {f : Nat → Int} {s : Nat} {v w : Int} : uf (uf f s v) s w = uf f s w := by
  funext q
  unfold uf
  by_cases h : q = s
  · rw [if_pos h, if_pos h]
  · rw [if_neg h, if_neg h, if_neg h]
theorem cS.f {f g : Nat → Int} (h : cS S0 S f g) {s : Nat} (v : Int) (hs : s < 64) : cS S0 (z_w1 S.1 68 s (iI v), S.2) (uf f s v) g := by
  refine ⟨fun q hq => ?_, fun q hq => ?_, fun a i h1 h2 => ?_, h.2.2.2⟩
  · dsimp only
    rw [z_w1_r]
    by_cases e : q = s
    · rw [if_pos ⟨rfl, e⟩, e, uf_s]
    · rw [if_neg (fun x => e x.2), uf_o e]; exact h.1 q hq
  · dsimp only
    rw [z_w1_r, if_neg (by omega)]; exact h.2.1 q hq
  · dsimp only
    rw [z_w1_r, if_neg (by omega)]; exact h.2.2.1 a i h1 h2
theorem cS.g {f g : Nat → Int} (h : cS S0 S f g) {s : Nat} (v : Int) (hs : s < 64) : cS S0 (z_w1 S.1 69 s (iI v), S.2) f (uf g s v) := by
  refine ⟨fun q hq => ?_, fun q hq => ?_, fun a i h1 h2 => ?_, h.2.2.2⟩
  · dsimp only
    rw [z_w1_r, if_neg (by omega)]; exact h.1 q hq
  · dsimp only
    rw [z_w1_r]
    by_cases e : q = s
    · rw [if_pos ⟨rfl, e⟩, e, uf_s]
    · rw [if_neg (fun x => e x.2), uf_o e]; exact h.2.1 q hq
  · dsimp only
    rw [z_w1_r, if_neg (by omega)]; exact h.2.2.1 a i h1 h2
theorem c_wr {T : Nat → Nat → Int} {f0 : Nat → Int} {s B : Nat} (h0 : 0 < s) (hB : B ≤ 10) (hs : s < 64) (hT : ∀ b t, b < B → t < 6 → S0.1 36 (t * 10 + b) = iI (T t b)) (hT2 : ∀ b t, b < B → t < 6 → 0 ≤ T t b ∧ T t b ≤ 401) (hf2 : ∀ q, q < s → q &&& s = q → -1 ≤ f0 q ∧ f0 q ≤ q) (d z : Nat) : ∀ (k b n : Nat) (S : z_St) (g : Nat → Int) (r : Int × Int) (x5 : Option Value), b + k = B → 3 * k + 2 ≤ n → -1 ≤ r.1 → r.1 ≤ s → cS S0 S (uf f0 s r.1) (uf g s r.2) → ∃ S', z_R39 (d + 2) n 33 z [some (.ref 67), some (.ref 36), some (.int (iI (B : Int))), some (.int (iI (s : Int))), some (.int (iI (b : Int))), x5] [] S = some (.inl none, S') ∧ cS S0 S' (uf f0 s (wsr T f0 s k b r).1) (uf g s (wsr T f0 s k b r).2) := by
  intro k
  induction k with
  | zero =>
    intro b n S g r x5 hb hn r0 r1 h
    obtain ⟨n, rfl⟩ : ∃ m, n = m + 2 := ⟨n - 2, by omega⟩
    refine ⟨S, ?_, h⟩
    rw [zq_39_33, if_pos (by rw [iI_le (by omega) (by omega) (by omega) (by omega)]; omega), zq_39_98]
  | succ k ih =>
    intro b n S g r x5 hb hn r0 r1 h
    obtain ⟨n, rfl⟩ : ∃ m, n = m + 3 := ⟨n - 3, by omega⟩
    have e2 : (b : Int) + ((1 : Nat) : Int) = ((b + 1 : Nat) : Int) := by omega
    have hl := lfr_b (T := fun t => T t b) hf2 6 0 0 (by decide) (by omega)
    have e1 : z_ew (d + 2) 40 [.ref 67, .ref 36, .int (iI (b : Int)), .int (iI (s : Int))] S = some (.inl (some (.int (iI (lfr (fun t => T t b) f0 s 6 0 0)))), S) := by
      rw [zx_40]
      exact c_lf (T := fun t => T t b) (by omega) hs (fun t ht => by rw [h.2.2.1 36 _ (by decide) (by decide)]; exact hT b t (by omega) ht) (fun t ht => hT2 b t (by omega) ht) (fun q h1 h2 => by rw [h.1 q (by omega), uf_o (by omega)]) hf2 d 0 6 0 999999 0 none (by omega) (by omega) (by decide) (by decide)
    rw [wsr_s, zq_39_33, if_neg (by rw [iI_le (by omega) (by omega) (by omega) (by omega)]; omega), e1, cli_i, nm1]
    have skip : ∀ (m : Nat) (x5 : Option Value), 3 * k + 2 ≤ m → ∃ S', z_R39 (d + 2) (m + 1) 92 z [some (.ref 67), some (.ref 36), some (.int (iI (B : Int))), some (.int (iI (s : Int))), some (.int (iI (b : Int))), x5] [] S = some (.inl none, S') ∧ cS S0 S' (uf f0 s (wsr T f0 s k (b + 1) r).1) (uf g s (wsr T f0 s k (b + 1) r).2) := by
      intro m x5 hm
      rw [zq_39_92, iI_n 1, iI_add, e2]
      exact ih (b + 1) m S g r none (by omega) hm r0 r1 h
    have put : ∃ S', z_R39 (d + 2) (n + 2) 76 z [some (.ref 67), some (.ref 36), some (.int (iI (B : Int))), some (.int (iI (s : Int))), some (.int (iI (b : Int))), some (.int (iI (lfr (fun t => T t b) f0 s 6 0 0)))] [] S = some (.inl none, S') ∧ cS S0 S' (uf f0 s (wsr T f0 s k (b + 1) (lfr (fun t => T t b) f0 s 6 0 0, (b : Int))).1) (uf g s (wsr T f0 s k (b + 1) (lfr (fun t => T t b) f0 s 6 0 0, (b : Int))).2) := by
      rw [zq_39_76, ixN hs (by decide), cond_true, cond_true, tN (by omega), zq_39_92, iI_n 1, iI_add, e2]
      have h5 := (h.f (lfr (fun t => T t b) f0 s 6 0 0) hs).g (b : Int) hs
      rw [uf_uf, uf_uf] at h5
      exact ih (b + 1) n _ g (lfr (fun t => T t b) f0 s 6 0 0, (b : Int)) none (by omega) (by omega) hl.1 hl.2 h5
    by_cases q : lfr (fun t => T t b) f0 s 6 0 0 = -1
    · rw [if_pos (by rw [q]), if_neg (fun e => e.1 q)]
      exact skip (n + 1) _ (by omega)
    · rw [if_neg (by rw [iI_eq (by omega) (by omega) (by decide) (by decide)]; exact q), ixN hs (by decide), cond_true, tN (by omega), h.1 s hs, uf_s]
      by_cases q2 : r.1 = -1
      · rw [if_pos (by rw [q2]), if_pos ⟨q, Or.inl q2⟩]
        exact put
      · rw [if_neg (by rw [iI_eq (by omega) (by omega) (by decide) (by decide)]; exact q2), cond_true]
        by_cases q3 : lfr (fun t => T t b) f0 s 6 0 0 < r.1
        · rw [if_neg (by rw [iI_le (by omega) (by omega) (by omega) (by omega)]; omega), if_pos ⟨q, Or.inr q3⟩]
          exact put
        · rw [if_pos (by rw [iI_le (by omega) (by omega) (by omega) (by omega)]; omega), if_neg (by omega)]
          exact skip (n + 1) _ (by omega)
theorem c_ws {T : Nat → Nat → Int} {f g : Nat → Int} {s B : Nat} (hB : B ≤ 10) (hs : s < 64) (hT : ∀ b t, b < B → t < 6 → S0.1 36 (t * 10 + b) = iI (T t b)) (hT2 : ∀ b t, b < B → t < 6 → 0 ≤ T t b ∧ T t b ≤ 401) (hf2 : ∀ q, q < s → q &&& s = q → -1 ≤ f q ∧ f q ≤ q) (h : cS S0 S f g) (d : Nat) : ∃ S', z_ew (d + 3) 39 [.ref 67, .ref 36, .int (iI (B : Int)), .int (iI (s : Int))] S = some (.inl none, S') ∧ cS S0 S' (uf f s (wss T B f s).1) (uf g s (wss T B f s).2) := by
  have h1 := h.g (-1) hs
  have hp := pc6_le s
  rw [zx_39, ixN hs (by decide), cond_true, tN (by omega), nm1, zy_185 (d + 1) s _ hs, cli_i, iI_n 1]
  unfold wss
  by_cases q : pc6 s ≤ 1
  · rw [if_neg (by rw [iI_lt (by decide) (by decide) (by omega) (by omega)]; omega), if_pos q]
    exact ⟨_, rfl, h1.f 0 hs⟩
  · have h0 : 0 < s := by
      by_cases e : s = 0
      · rw [e, kb_0] at q
        omega
      · omega
    rw [if_pos (by rw [iI_lt (by decide) (by decide) (by omega) (by omega)]; omega), if_neg q, zq_39_23, ixN hs (by decide), cond_true, tN (by omega), nm1]
    exact c_wr h0 hB hs hT hT2 hf2 d 0 B 0 999998 _ g (-1, -1) none (by omega) (by omega) (by decide) (by show (-1 : Int) ≤ s; omega) (h1.f (-1) hs)
theorem c_wg {T : Nat → Nat → Int} {a B : Nat} (hB : B ≤ 10) (ha : a < 64) (hT : ∀ b t, b < B → t < 6 → S0.1 36 (t * 10 + b) = iI (T t b)) (hT2 : ∀ b t, b < B → t < 6 → 0 ≤ T t b ∧ T t b ≤ 401) (d z : Nat) : ∀ (k s n : Nat) (S : z_St) (f g : Nat → Int), s + k = a + 1 → 2 * k + 2 ≤ n → (∀ q, q < s → q &&& a = q → f q = (ff T B q).1 ∧ g q = (ff T B q).2) → cS S0 S f g → ∃ S' f' g', z_R38 (d + 3) n 3 z [some (.ref 67), some (.ref 36), some (.int (iI (B : Int))), some (.int (iI (a : Int))), some (.int (iI (s : Int)))] [] S = some (.inl none, S') ∧ cS S0 S' f' g' ∧ f' a = (ff T B a).1 ∧ g' a = (ff T B a).2 := by
  intro k
  induction k with
  | zero =>
    intro s n S f g hi hn hq h
    obtain ⟨n, rfl⟩ : ∃ m, n = m + 2 := ⟨n - 2, by omega⟩
    have h2 := hq a (by omega) (Nat.and_self a)
    refine ⟨S, f, g, ?_, h, h2.1, h2.2⟩
    rw [zq_38_3, if_pos (by rw [iI_lt (by omega) (by omega) (by omega) (by omega)]; omega), zq_38_39]
  | succ k ih =>
    intro s n S f g hi hn hq h
    obtain ⟨n, rfl⟩ : ∃ m, n = m + 2 := ⟨n - 2, by omega⟩
    have e2 : (s : Int) + ((1 : Nat) : Int) = ((s + 1 : Nat) : Int) := by omega
    have hle : s &&& a ≤ s := Nat.and_le_left
    rw [zq_38_3, if_neg (by rw [iI_lt (by omega) (by omega) (by omega) (by omega)]; omega), iI_n 64, if_neg (by rw [iI_le (by decide) (by decide) (by omega) (by omega)]; omega), and_t s (by omega) a ha]
    by_cases q : s &&& a = s
    · obtain ⟨S1, g1, g2⟩ := c_ws (s := s) hB (by omega) hT hT2 (fun x h1 h3 => by
        rw [(hq x h1 (sub_tr h3 q)).1]
        have := ff_b T B 64 x (by omega)
        exact ⟨this.1, this.2.1⟩) h d
      rw [ff_e (fun x h1 h3 => (hq x h1 (sub_tr h3 q)).1)] at g2
      rw [if_pos (by rw [q]), g1, clv_v, zq_38_33, iI_n 1, iI_add, e2]
      refine ih (s + 1) n S1 _ _ (by omega) (by omega) (fun x h1 h3 => ?_) g2
      by_cases e : x = s
      · rw [e, uf_s, uf_s]
        exact ⟨rfl, rfl⟩
      · rw [uf_o e, uf_o e]
        exact hq x (by omega) h3
    · rw [if_neg (by rw [iI_eq (by omega) (by omega) (by omega) (by omega)]; omega), zq_38_33, iI_n 1, iI_add, e2]
      refine ih (s + 1) n S f g (by omega) (by omega) (fun x h1 h3 => ?_) h
      by_cases e : x = s
      · rw [e] at h3
        exact absurd h3 q
      · exact hq x (by omega) h3
end SET
