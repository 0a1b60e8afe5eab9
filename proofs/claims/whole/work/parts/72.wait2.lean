/-! waiting: the class's walk and the model's -/
section WAC
variable {w : Nat} {H R : Nat → Int} {S0 : z_St}
theorem wl_s {F : Nat → wS → wS} {j i : Nat} {s : wS} : wl F (j + 1) i s = wl F j (i + 1) (F i s) := rfl
theorem wc_0 {n u : Nat} {f g : Int} {s : wS} : wc w H R 0 n u f g s = if s.1 ≤ g then s else (g, fun k => if k < w then s.2.2 k else s.2.1 k, s.2.2) := rfl
theorem wm_0 {n u : Nat} {f g : Int} {s : wS} : wm w H R 0 n u f g s = if s.1 ≠ -1 ∧ s.1 ≤ g then s else (g, fun k => if k < n then s.2.2 k else s.2.1 k, s.2.2) := rfl
theorem wc_s {k n u : Nat} {f g : Int} {s : wS} : wc w H R (k + 1) n u f g s = if s.1 ≤ g then s else wl (fun i s => if u.testBit i = true then s else wc w H R k (n + 1) (u ||| 2 ^ i) (mxI f (R i) + H i) (g + mxI f (R i) - R i) (wt n i s)) w 0 s := rfl
def cW (S0 S : z_St) (s : wS) : Prop := S.1 64 3 = iI s.1 ∧ (∀ k, k < 7 → S.1 65 k = iI (s.2.1 k)) ∧ (∀ k, k < 7 → S.1 66 k = iI (s.2.2 k)) ∧ (∀ a i, a ≠ 65 → a ≠ 66 → (a ≠ 64 ∨ i ≠ 3) → S.1 a i = S0.1 a i) ∧ S.2 = S0.2 ∧ -1 ≤ s.1 ∧ s.1 ≤ 1000000
theorem cW.t {S : z_St} {s : wS} (h : cW S0 S s) {n i : Nat} (hn : n < 7) : cW S0 (z_w1 S.1 66 n (iI i), S.2) (wt n i s) := by
  obtain ⟨h1, h2, h3, h4, h5, h6⟩ := h
  refine ⟨?_, fun k hk => ?_, fun k hk => ?_, fun a j q1 q2 q3 => ?_, h5, h6⟩
  · show z_w1 S.1 66 n (iI i) 64 3 = _
    rw [z_w1_r, if_neg (by omega)]; exact h1
  · show z_w1 S.1 66 n (iI i) 65 k = _
    rw [z_w1_r, if_neg (by omega)]; exact h2 k hk
  · show z_w1 S.1 66 n (iI i) 66 k = iI (if k = n then (i : Int) else s.2.2 k)
    rw [z_w1_r]
    by_cases q : k = n
    · rw [if_pos ⟨rfl, q⟩, if_pos q]
    · rw [if_neg (fun e => q e.2), if_neg q]; exact h3 k hk
  · show z_w1 S.1 66 n (iI i) a j = _
    rw [z_w1_r, if_neg (by omega)]; exact h4 a j q1 q2 q3
theorem c_pl (h7 : w ≤ 7) (hR : ∀ i, i < w → 0 ≤ R i ∧ R i ≤ 999) (hH : ∀ i, i < w → 1 ≤ H i ∧ H i ≤ 99) (e12 : S0.1 24 12 = iI (w : Int)) (e1 : S0.1 64 1 = iI (w : Int)) (eH : ∀ i, i < w → S0.1 34 i = iI (H i)) (eR : ∀ i, i < w → S0.1 35 i = iI (R i)) (d : Nat) : ∀ (k n u : Nat) (f g : Int) (S : z_St) (s : wS), n + k = w → u < 128 → 0 ≤ f → f ≤ 999 + 99 * n → 0 ≤ g → g ≤ 2000 * n → cW S0 S s → ∃ S', z_ew (d + k + 2) 72 [.ref 64, .ref 24, .int (iI n), .int (iI u), .int (iI f), .int (iI g)] S = some (.inl none, S') ∧ cW S0 S' (wc w H R k n u f g s) := by
  intro k
  induction k with
  | zero =>
    intro n u f g S s hn hu f0 f1 g0 g1 h
    obtain ⟨h1, h2, h3, h4, h5, h6⟩ := h
    rw [zx_72 (d + 0 + 1), h1]
    rw [wc_0]
    by_cases q : s.1 ≤ g
    · rw [if_neg (by rw [iI_lt (by omega) (by omega) (by omega) (by omega)]; omega), if_pos q]
      exact ⟨S, rfl, h1, h2, h3, h4, h5, h6⟩
    · rw [if_pos (by rw [iI_lt (by omega) (by omega) (by omega) (by omega)]; omega), if_neg q, zq_72_10, h4 24 12 (by decide) (by decide) (by decide), e12, if_pos (by rw [iI_le (by omega) (by omega) (by omega) (by omega)]; omega), zq_72_24, h4 64 1 (by decide) (by decide) (by decide), e1]
      refine ⟨_, cond_t (cpc (N := 7) (m := w) rfl h7 (by decide) rfl rfl rfl rfl), ?_⟩
      have e0 : (nI 0).toNatClampNeg = 0 := by decide +kernel
      rw [e0, tN (by omega)]
      refine ⟨?_, fun k hk => ?_, fun k hk => ?_, fun a j q1 q2 q3 => ?_, h5, ?_⟩
      · dsimp only
        rw [c1r, if_neg (by omega), z_w1_r, if_pos ⟨rfl, rfl⟩]
      · dsimp only
        rw [c1r]
        by_cases q : k < w
        · rw [if_pos ⟨rfl, q⟩, z_w1_r, if_neg (by omega), h3 k hk, if_pos q]
        · rw [if_neg (fun e => q e.2), z_w1_r, if_neg (by omega), h2 k hk, if_neg q]
      · dsimp only
        rw [c1r, if_neg (by omega), z_w1_r, if_neg (by omega), h3 k hk]
      · dsimp only
        rw [c1r, if_neg (by omega), z_w1_r, if_neg (by omega), h4 a j q1 q2 q3]
      · show -1 ≤ g ∧ g ≤ 1000000
        omega
  | succ k ih =>
    intro n u f g S s hn hu f0 f1 g0 g1 h
    obtain ⟨h1, h2, h3, h4, h5, h6⟩ := id h
    rw [show d + (k + 1) + 2 = d + k + 2 + 1 by omega, zx_72 (d + k + 2), h1]
    rw [wc_s]
    by_cases q : s.1 ≤ g
    · rw [if_neg (by rw [iI_lt (by omega) (by omega) (by omega) (by omega)]; omega), if_pos q]
      exact ⟨S, rfl, h⟩
    · rw [if_pos (by rw [iI_lt (by omega) (by omega) (by omega) (by omega)]; omega), if_neg q, zq_72_10, h4 24 12 (by decide) (by decide) (by decide), e12, if_neg (by rw [iI_le (by omega) (by omega) (by omega) (by omega)]; omega), iI_n 7, if_pos (by rw [iI_lt (by omega) (by omega) (by decide) (by decide)]; omega), zq_72_48]
      have key : ∀ (j i m : Nat) (S : z_St) (s : wS) (x7 x8 : Option Value), i + j = w → 2 * j + 2 ≤ m → cW S0 S s → ∃ S', z_R72 (d + k + 2) m 51 0 [some (.ref 64), some (.ref 24), some (.int (iI n)), some (.int (iI u)), some (.int (iI f)), some (.int (iI g)), some (.int (iI i)), x7, x8] [] S = some (.inl none, S') ∧ cW S0 S' (wl (fun i s => if u.testBit i = true then s else wc w H R k (n + 1) (u ||| 2 ^ i) (mxI f (R i) + H i) (g + mxI f (R i) - R i) (wt n i s)) j i s) := by
        intro j
        induction j with
        | zero =>
          intro i m S s x7 x8 hi hm h
          obtain ⟨m, rfl⟩ : ∃ m', m = m' + 2 := ⟨m - 2, by omega⟩
          refine ⟨S, ?_, h⟩
          rw [zq_72_51, h.2.2.2.1 24 12 (by decide) (by decide) (by decide), e12, if_pos (by rw [iI_le (by omega) (by omega) (by omega) (by omega)]; omega), zq_72_133]
        | succ j ihj =>
          intro i m S s x7 x8 hi hm h
          obtain ⟨m, rfl⟩ : ∃ m', m = m' + 2 := ⟨m - 2, by omega⟩
          have hr := hR i (by omega)
          have hh := hH i (by omega)
          have hm := mxI_ge f (R i)
          have ho := mxI_or f (R i)
          have a2 : (i : Int) + ((1 : Nat) : Int) = ((i + 1 : Nat) : Int) := by omega
          have a3 : (n : Int) + ((1 : Nat) : Int) = ((n + 1 : Nat) : Int) := by omega
          rw [zq_72_51, h.2.2.2.1 24 12 (by decide) (by decide) (by decide), e12, if_neg (by rw [iI_le (by omega) (by omega) (by omega) (by omega)]; omega), bit_t u hu i (by omega)]
          rw [wl_s]
          by_cases hb : u.testBit i = true
          · rw [if_neg (by rw [b01]; exact fun e => e hb), if_pos hb, zq_72_127, iI_n 1, iI_add, a2]
            exact ihj (i + 1) m S s none none (by omega) (by omega) h
          · obtain ⟨S', g1, g2⟩ := ih (n + 1) (u ||| 2 ^ i) (mxI f (R i) + H i) (g + mxI f (R i) - R i) _ _ (by omega) (or_lt hu (by omega)) (by omega) (by omega) (by omega) (by omega) (h.t (n := n) (i := i) (by omega))
            obtain ⟨S'', g3, g4⟩ := ihj (i + 1) m S' _ none none (by omega) (by omega) g2
            refine ⟨S'', ?_, by rw [if_neg hb]; exact g4⟩
            rw [if_pos (by rw [b01]; exact hb), ixN (by omega) (by decide), cond_true, tN (by omega), h.2.2.2.1 35 i (by decide) (by decide) (by omega), eR i (by omega), zy_187 (d + k + 1) f (R i) S (by omega) (by omega) (by omega) (by omega), cli_i, ixN (by omega) (by decide), cond_true, cond_true, tN (by omega), h.2.2.2.1 34 i (by decide) (by decide) (by omega), eH i (by omega), bit_s u hu i (by omega), iI_n 1, iI_add, iI_add, iI_add, iI_sub, a3, g1, clv_v, zq_72_127, iI_n 1, iI_add, a2]
            exact g3
      exact key w 0 999997 S s none none (by omega) (by omega) h
def mW (S0 S : z_St) (s : wS) : Prop := S.1 70 64 = iI s.1 ∧ (∀ k, k < 7 → S.1 110 k = iI (s.2.1 k)) ∧ (∀ k, k < 7 → S.1 111 k = iI (s.2.2 k)) ∧ (∀ a i, a ≠ 110 → a ≠ 111 → (a ≠ 70 ∨ i ≠ 64) → S.1 a i = S0.1 a i) ∧ S.2 = S0.2 ∧ -1 ≤ s.1 ∧ s.1 ≤ 1000000
theorem mW.t {S : z_St} {s : wS} (h : mW S0 S s) {n i : Nat} (hn : n < 7) : mW S0 (z_w1 S.1 111 n (iI i), S.2) (wt n i s) := by
  obtain ⟨h1, h2, h3, h4, h5, h6⟩ := h
  refine ⟨?_, fun k hk => ?_, fun k hk => ?_, fun a j q1 q2 q3 => ?_, h5, h6⟩
  · show z_w1 S.1 111 n (iI i) 70 64 = _
    rw [z_w1_r, if_neg (by omega)]; exact h1
  · show z_w1 S.1 111 n (iI i) 110 k = _
    rw [z_w1_r, if_neg (by omega)]; exact h2 k hk
  · show z_w1 S.1 111 n (iI i) 111 k = iI (if k = n then (i : Int) else s.2.2 k)
    rw [z_w1_r]
    by_cases q : k = n
    · rw [if_pos ⟨rfl, q⟩, if_pos q]
    · rw [if_neg (fun e => q e.2), if_neg q]; exact h3 k hk
  · show z_w1 S.1 111 n (iI i) a j = _
    rw [z_w1_r, if_neg (by omega)]; exact h4 a j q1 q2 q3
/-- the model's row of tries goes over into its order -/
theorem m_cp (d z : Nat) {n : Nat} (hn7 : n ≤ 7) (g : Int) : ∀ (j i m : Nat) (S : z_St) (s : wS) (x4 : Option Value), i + j = n → j + 2 ≤ m → mW S0 S (g, fun k => if k < i then s.2.2 k else s.2.1 k, s.2.2) → ∃ S', z_R174 d m 35 z [some (.ref 70), some (.int (iI n)), none, none, x4, some (.int (iI i)), none] [] S = some (.inl none, S') ∧ mW S0 S' (g, fun k => if k < n then s.2.2 k else s.2.1 k, s.2.2) := by
  intro j
  induction j with
  | zero =>
    intro i m S s x4 hi hm h
    obtain ⟨m, rfl⟩ : ∃ m', m = m' + 2 := ⟨m - 2, by omega⟩
    have e : i = n := by omega
    subst e
    refine ⟨S, ?_, h⟩
    rw [zq_174_35, if_pos (by rw [iI_le (by omega) (by omega) (by omega) (by omega)]; omega), zq_174_61]
  | succ j ihj =>
    intro i m S s x4 hi hm h
    obtain ⟨m, rfl⟩ : ∃ m', m = m' + 2 := ⟨m - 2, by omega⟩
    obtain ⟨h1, h2, h3, h4, h5, h6⟩ := h
    have a2 : (i : Int) + ((1 : Nat) : Int) = ((i + 1 : Nat) : Int) := by omega
    rw [zq_174_35, if_neg (by rw [iI_le (by omega) (by omega) (by omega) (by omega)]; omega), ixN (by omega) (by decide), cond_true, cond_true, tN (by omega), iI_n 1, iI_add, a2]
    refine ihj (i + 1) (m + 1) _ s none (by omega) (by omega) ⟨?_, fun k hk => ?_, fun k hk => ?_, fun a q q1 q2 q3 => ?_, h5, h6⟩
    · dsimp only
      rw [z_w1_r, if_neg (by omega)]; exact h1
    · dsimp only
      rw [z_w1_r]
      by_cases q : k = i
      · subst q
        rw [if_pos ⟨rfl, rfl⟩, if_pos (by omega)]
        exact h3 k hk
      · have h2k := h2 k hk
        dsimp only at h2k
        rw [if_neg (fun e => q e.2), h2k]
        by_cases q2 : k < i
        · rw [if_pos q2, if_pos (by omega)]
        · rw [if_neg q2, if_neg (by omega)]
    · dsimp only
      rw [z_w1_r, if_neg (by omega)]; exact h3 k hk
    · dsimp only
      rw [z_w1_r, if_neg (by omega)]; exact h4 a q q1 q2 q3
theorem m_pl (h7 : w ≤ 7) (hR : ∀ i, i < w → 0 ≤ R i ∧ R i ≤ 999) (hH : ∀ i, i < w → 1 ≤ H i ∧ H i ≤ 99) (e12 : S0.1 70 57 = iI (w : Int)) (eH : ∀ i, i < w → S0.1 108 i = iI (H i)) (eR : ∀ i, i < w → S0.1 109 i = iI (R i)) (d : Nat) : ∀ (k n u : Nat) (f g : Int) (S : z_St) (s : wS), n + k = w → u < 128 → 0 ≤ f → f ≤ 999 + 99 * n → 0 ≤ g → g ≤ 2000 * n → mW S0 S s → ∃ S', z_ew (d + k + 2) 174 [.ref 70, .int (iI n), .int (iI u), .int (iI f), .int (iI g)] S = some (.inl none, S') ∧ mW S0 S' (wm w H R k n u f g s) := by
  intro k
  induction k with
  | zero =>
    intro n u f g S s hn hu f0 f1 g0 g1 h
    obtain ⟨h1, h2, h3, h4, h5, h6⟩ := id h
    rw [zx_174 (d + 0 + 1), h1, h4 70 57 (by decide) (by decide) (by decide), e12, if_pos (by rw [iI_eq (by omega) (by omega) (by omega) (by omega)]; omega), nm1]
    rw [wm_0]
    have up : ∃ S', z_R174 (d + 0 + 1) 999999 26 0 [some (.ref 70), some (.int (iI n)), some (.int (iI u)), some (.int (iI f)), some (.int (iI g)), none, none] [] S = some (.inl none, S') ∧ mW S0 S' (g, fun k => if k < n then s.2.2 k else s.2.1 k, s.2.2) := by
      rw [zq_174_26]
      refine m_cp (d + 0 + 1) 0 (by omega) g n 0 999998 _ s _ (by omega) (by omega) ⟨?_, fun k hk => ?_, fun k hk => ?_, fun a q q1 q2 q3 => ?_, h5, by show -1 ≤ g; omega, by show g ≤ 1000000; omega⟩
      · dsimp only
        rw [z_w1_r, if_pos ⟨rfl, rfl⟩]
      · dsimp only
        rw [z_w1_r, if_neg (by omega), if_neg (by omega)]; exact h2 k hk
      · dsimp only
        rw [z_w1_r, if_neg (by omega)]; exact h3 k hk
      · dsimp only
        rw [z_w1_r, if_neg (by omega)]; exact h4 a q q1 q2 q3
    by_cases q : s.1 = -1
    · rw [if_pos (by rw [q]), if_neg (by omega)]
      exact up
    · rw [if_neg (by rw [iI_eq (by omega) (by omega) (by decide) (by decide)]; exact q)]
      by_cases q2 : s.1 ≤ g
      · rw [if_neg (by rw [iI_lt (by omega) (by omega) (by omega) (by omega)]; omega), if_pos ⟨q, q2⟩]
        exact ⟨S, rfl, h⟩
      · rw [if_pos (by rw [iI_lt (by omega) (by omega) (by omega) (by omega)]; omega), if_neg (by omega)]
        exact up
  | succ k ih =>
    intro n u f g S s hn hu f0 f1 g0 g1 h
    rw [show d + (k + 1) + 2 = d + k + 2 + 1 by omega, zx_174 (d + k + 2), h.2.2.2.1 70 57 (by decide) (by decide) (by decide), e12, if_neg (by rw [iI_eq (by omega) (by omega) (by omega) (by omega)]; omega), zq_174_62]
    have key : ∀ (j i m : Nat) (S : z_St) (s : wS) (x6 : Option Value), i + j = w → 3 * j + 2 ≤ m → mW S0 S s → ∃ S', z_R174 (d + k + 2) m 65 0 [some (.ref 70), some (.int (iI n)), some (.int (iI u)), some (.int (iI f)), some (.int (iI g)), some (.int (iI i)), x6] [] S = some (.inl none, S') ∧ mW S0 S' (wl (fun i s => if u.testBit i = true then s else wm w H R k (n + 1) (u ||| 2 ^ i) (mxI f (R i) + H i) (g + mxI f (R i) - R i) (wt n i s)) j i s) := by
      intro j
      induction j with
      | zero =>
        intro i m S s x6 hi hm h
        obtain ⟨m, rfl⟩ : ∃ m', m = m' + 2 := ⟨m - 2, by omega⟩
        refine ⟨S, ?_, h⟩
        rw [zq_174_65, h.2.2.2.1 70 57 (by decide) (by decide) (by decide), e12, if_pos (by rw [iI_le (by omega) (by omega) (by omega) (by omega)]; omega), zq_174_150]
      | succ j ihj =>
        intro i m S s x6 hi hm h
        obtain ⟨m, rfl⟩ : ∃ m', m = m' + 3 := ⟨m - 3, by omega⟩
        have hr := hR i (by omega)
        have hh := hH i (by omega)
        have hm := mxI_ge f (R i)
        have ho := mxI_or f (R i)
        have a2 : (i : Int) + ((1 : Nat) : Int) = ((i + 1 : Nat) : Int) := by omega
        have a3 : (n : Int) + ((1 : Nat) : Int) = ((n + 1 : Nat) : Int) := by omega
        rw [zq_174_65, h.2.2.2.1 70 57 (by decide) (by decide) (by decide), e12, if_neg (by rw [iI_le (by omega) (by omega) (by omega) (by omega)]; omega), bit_t u hu i (by omega)]
        rw [wl_s]
        by_cases hb : u.testBit i = true
        · rw [if_pos (b10.2 hb), if_pos hb, zq_174_144, iI_n 1, iI_add, a2]
          exact ihj (i + 1) (m + 1) S s none (by omega) (by omega) h
        · have ht := h.t (n := n) (i := i) (by omega)
          obtain ⟨S', g1, g2⟩ := ih (n + 1) (u ||| 2 ^ i) (mxI f (R i) + H i) (g + mxI f (R i) - R i) _ _ (by omega) (or_lt hu (by omega)) (by omega) (by omega) (by omega) (by omega) ht
          obtain ⟨S'', g3, g4⟩ := ihj (i + 1) m S' _ none (by omega) (by omega) g2
          refine ⟨S'', ?_, by rw [if_neg hb]; exact g4⟩
          have r1 : z_w1 S.1 111 n (iI i) 109 i = iI (R i) := by rw [← eR i (by omega)]; exact ht.2.2.2.1 109 i (by decide) (by decide) (by omega)
          have r2 : z_w1 S.1 111 n (iI i) 108 i = iI (H i) := by rw [← eH i (by omega)]; exact ht.2.2.2.1 108 i (by decide) (by decide) (by omega)
          rw [if_neg (fun e => hb (b10.1 e)), zq_174_87, ixN (by omega) (by decide), cond_true, ixN (by omega) (by decide), cond_true, tN (by omega), tN (by omega), h.2.2.2.1 109 i (by decide) (by decide) (by omega), eR i (by omega), zy_187 (d + k + 1) f (R i) _ (by omega) (by omega) (by omega) (by omega), cli_i, cond_true, cond_true]
          dsimp only
          rw [r1, r2, bit_s u hu i (by omega), iI_n 1, iI_add, iI_add, iI_add, iI_sub, a3, g1, clv_v, zq_174_144, iI_n 1, iI_add, a2]
          exact g3
    exact key w 0 999998 S s none (by omega) (by omega) h
end WAC
