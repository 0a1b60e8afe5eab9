/-! the word of a token, from both sides -/
theorem mch_u {T : Nat → Int} {e : Nat} : ∀ (a b : List Int32) (q : Nat), mch T e a q = true → mch T e b q = true → a = b
  | [], [], _, _, _ => rfl
  | [], c :: b, q, h1, h2 => by
    have h1 : q = e := of_decide_eq_true h1
    rw [mch_s, Bool.and_eq_true] at h2
    have := of_decide_eq_true h2.1
    omega
  | c :: a, [], q, h1, h2 => by
    have h2 : q = e := of_decide_eq_true h2
    rw [mch_s, Bool.and_eq_true] at h1
    have := of_decide_eq_true h1.1
    omega
  | c :: a, c' :: b, q, h1, h2 => by
    rw [mch_s, Bool.and_eq_true, Bool.and_eq_true] at h1 h2
    rw [mch_u a b (q + 1) h1.2.2 h2.2.2, ← of_decide_eq_true h1.2.1, ← of_decide_eq_true h2.2.1]
theorem tx_u : ∀ i : Nat, i < 17 → ∀ j : Nat, j < 17 → z_tx.getD i [] = z_tx.getD j [] → i = j := by decide +kernel
theorem fdF_h {T : Nat → Int} {s e j : Nat} (hj : j < 17) (hm : mch T e (z_tx.getD j []) s = true) : ∀ k i, i + k = 17 → i ≤ j → fdF T s e k i = j
  | 0, i, h, h2 => by omega
  | k + 1, i, h, h2 => by
    rw [fdF_s]
    by_cases c : mch T e (z_tx.getD i []) s = true
    · rw [if_pos c]
      exact tx_u i (by omega) j hj (mch_u _ _ s c hm)
    · rw [if_neg c]
      refine fdF_h hj hm k (i + 1) (by omega) ?_
      by_cases e2 : i = j
      · subst e2
        exact absurd hm c
      · omega
theorem fdF_m {T : Nat → Int} {s e j : Nat} (hj : 1 ≤ j) : ∀ k i, fdF T s e k i = j → mch T e (z_tx.getD j []) s = true
  | 0, i, h => by
    have h : 0 = j := h
    omega
  | k + 1, i, h => by
    rw [fdF_s] at h
    by_cases c : mch T e (z_tx.getD i []) s = true
    · rw [if_pos c] at h
      rw [← h]
      exact c
    · rw [if_neg c] at h
      exact fdF_m hj k (i + 1) h
theorem wd_i {T : Nat → Int} {n s i : Nat} (h1 : 1 ≤ i) (h2 : i < 17) : wd T n s = i ↔ s < n ∧ tkL (T s) = true ∧ mch T (rn tkL T n s) (z_tx.getD i []) s = true := by
  unfold wd
  by_cases c : n ≤ s
  · rw [if_pos c]
    exact ⟨fun e => by omega, fun e => by omega⟩
  · rw [if_neg c]
    by_cases cl : tkL (T s) = true
    · rw [if_pos cl]
      exact ⟨fun e => ⟨by omega, cl, fdF_m h1 17 0 e⟩, fun e => fdF_h h2 e.2.2 17 0 (by omega) (by omega)⟩
    · rw [if_neg cl]
      exact ⟨fun e => by omega, fun e => absurd e.2.1 cl⟩
