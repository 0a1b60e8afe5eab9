/-! runs of a text: the model's -/
section MST
variable {S : z_St}
def f18 (S S' : z_St) : Prop := (∀ a i, a ≠ 70 ∨ i ≠ 18 → S'.1 a i = S.1 a i) ∧ S'.2 = S.2
theorem f18.tr {S S1 S2 : z_St} (h : f18 S S1) (h2 : f18 S1 S2) : f18 S S2 := ⟨fun a i q => (h2.1 a i q).trans (h.1 a i q), h2.2.trans h.2⟩
theorem f18_w (v : Int32) : f18 S (z_w1 S.1 70 18 v, S.2) := ⟨fun a i h => by dsimp only; rw [z_w1_r, if_neg (by omega)], rfl⟩
theorem txM.g {T : Nat → Int} {n : Nat} {S' : z_St} (h : txM T n S) (hf : f18 S S') : txM T n S' := h.f (fun i => hf.1 82 i (by omega)) (hf.1 70 19 (by omega))
theorem w18 (v : Int32) : z_w1 S.1 70 18 v 70 18 = v := by rw [z_w1_r, if_pos ⟨rfl, rfl⟩]
theorem m_blk {T : Nat → Int} {n0 : Nat} (hn0 : n0 ≤ 700) (d z : Nat) : ∀ (k q n : Nat) (S : z_St) (x1 : Option Value), q + k = n0 → 2 * k + 1 ≤ n → txM T n0 S → S.1 70 18 = iI (q : Int) → ∃ S' n', n ≤ n' + 2 * k + 1 ∧ z_R120 (d + 1) n 0 z [some (.ref 70), x1] [] S = z_R120 (d + 1) n' 39 z [some (.ref 70), none] [] S' ∧ S'.1 70 18 = iI (rnF tkB T k q : Int) ∧ f18 S S' := by
  intro k
  induction k with
  | zero =>
    intro q n S x1 hq hn hT h
    obtain ⟨n, rfl⟩ : ∃ m, n = m + 1 := ⟨n - 1, by omega⟩
    have hb : btM T n0 q = -1 := by
      unfold btM
      rw [if_neg (by omega)]
    refine ⟨S, n, by omega, ?_, h, fun _ _ _ => rfl, rfl⟩
    rw [zq_120_0, h, m_byt hn0 hT (by omega) d, cli_i, hb, if_neg (by decide +kernel), h, m_byt hn0 hT (by omega) d, cli_i, hb, if_neg (by decide +kernel)]
  | succ k ih =>
    intro q n S x1 hq hn hT h
    obtain ⟨n, rfl⟩ : ∃ m, n = m + 2 := ⟨n - 2, by omega⟩
    have e2 : (q : Int) + ((1 : Nat) : Int) = ((q + 1 : Nat) : Int) := by omega
    have hr := (hT.2 q (by omega)).1
    have hb : btM T n0 q = T q := by
      unfold btM
      rw [if_pos (by omega)]
    have e : ∀ k : Nat, k < 100 → (iI (T q) = nI k ↔ T q = k) := by
      intro k hk
      rw [iI_n, iI_eq (by omega) (by omega) (by omega) (by omega)]
    have go := ih (q + 1) n (z_w1 S.1 70 18 (iI ((q + 1 : Nat) : Int)), S.2) none (by omega) (by omega) (hT.g (f18_w (S := S) _)) (w18 (S := S) _)
    obtain ⟨S', n', a1, a2, a3, a4⟩ := go
    have st : z_R120 (d + 1) (n + 1) 26 z [some (.ref 70), none] [] S = z_R120 (d + 1) n' 39 z [some (.ref 70), none] [] S' := by
      rw [zq_120_26, h, iI_n 1, iI_add, e2]
      exact a2
    by_cases c : tkB (T q) = true
    · refine ⟨S', n', by omega, ?_, by rw [rnF_s, if_pos c]; exact a3, (f18_w (S := S) _).tr a4⟩
      rw [zq_120_0, h, m_byt hn0 hT (by omega) d, cli_i, hb]
      by_cases c1 : T q = 32
      · rw [if_pos ((e 32 (by decide)).mpr c1)]
        exact st
      · have c2 : T q = 10 := by
          rcases of_decide_eq_true c with c | c
          · exact absurd c c1
          · exact c
        rw [if_neg (fun z => c1 ((e 32 (by decide)).mp z)), h, m_byt hn0 hT (by omega) d, cli_i, hb, if_pos ((e 10 (by decide)).mpr c2)]
        exact st
    · have hc : ¬ (T q = 32 ∨ T q = 10) := fun z => c (decide_eq_true z)
      refine ⟨S, n + 1, by omega, ?_, by rw [rnF_s, if_neg c]; exact h, fun _ _ _ => rfl, rfl⟩
      rw [zq_120_0, h, m_byt hn0 hT (by omega) d, cli_i, hb, if_neg (fun z => hc (Or.inl ((e 32 (by decide)).mp z))), h, m_byt hn0 hT (by omega) d, cli_i, hb, if_neg (fun z => hc (Or.inr ((e 10 (by decide)).mp z)))]
theorem m_let {T : Nat → Int} {n0 : Nat} (hn0 : n0 ≤ 700) (d z : Nat) : ∀ (k q n : Nat) (S : z_St) (x1 : Option Value), q + k = n0 → k + 1 ≤ n → txM T n0 S → S.1 70 18 = iI (q : Int) → ∃ S' n', n ≤ n' + k + 1 ∧ z_R120 (d + 1) n 76 z [some (.ref 70), x1] [] S = z_R120 (d + 1) n' 103 z [some (.ref 70), none] [] S' ∧ S'.1 70 18 = iI (rnF tkL T k q : Int) ∧ f18 S S' := by
  intro k
  induction k with
  | zero =>
    intro q n S x1 hq hn hT h
    obtain ⟨n, rfl⟩ : ∃ m, n = m + 1 := ⟨n - 1, by omega⟩
    have hb : btM T n0 q = -1 := by
      unfold btM
      rw [if_neg (by omega)]
    refine ⟨S, n, by omega, ?_, h, fun _ _ _ => rfl, rfl⟩
    rw [zq_120_76, h, m_byt hn0 hT (by omega) d, cli_i, hb, m_isL (by decide) d, cli_i, if_pos (by rfl)]
  | succ k ih =>
    intro q n S x1 hq hn hT h
    obtain ⟨n, rfl⟩ : ∃ m, n = m + 1 := ⟨n - 1, by omega⟩
    have e2 : (q : Int) + ((1 : Nat) : Int) = ((q + 1 : Nat) : Int) := by omega
    have hr := (hT.2 q (by omega)).1
    have hb : btM T n0 q = T q := by
      unfold btM
      rw [if_pos (by omega)]
    by_cases c : tkL (T q) = true
    · obtain ⟨S', n', a1, a2, a3, a4⟩ := ih (q + 1) n (z_w1 S.1 70 18 (iI ((q + 1 : Nat) : Int)), S.2) none (by omega) (by omega) (hT.g (f18_w (S := S) _)) (w18 (S := S) _)
      refine ⟨S', n', by omega, ?_, by rw [rnF_s, if_pos c]; exact a3, (f18_w (S := S) _).tr a4⟩
      rw [zq_120_76, h, m_byt hn0 hT (by omega) d, cli_i, hb, m_isL (by omega) d, cli_i, c, if_neg (by decide +kernel), h, iI_n 1, iI_add, e2]
      exact a2
    · refine ⟨S, n, by omega, ?_, by rw [rnF_s, if_neg c]; exact h, fun _ _ _ => rfl, rfl⟩
      rw [zq_120_76, h, m_byt hn0 hT (by omega) d, cli_i, hb, m_isL (by omega) d, cli_i, Bool.eq_false_iff.mpr c, if_pos (by rfl)]
end MST
