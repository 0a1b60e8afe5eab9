/-! digits of a text: the model's -/
section MDG
variable {S : z_St}
def f21 (S S' : z_St) : Prop := (∀ a i, a ≠ 70 ∨ (i ≠ 18 ∧ i ≠ 21) → S'.1 a i = S.1 a i) ∧ S'.2 = S.2
theorem f21.tr {S S1 S2 : z_St} (h : f21 S S1) (h2 : f21 S1 S2) : f21 S S2 := ⟨fun a i q => (h2.1 a i q).trans (h.1 a i q), h2.2.trans h.2⟩
theorem txM.h {T : Nat → Int} {n : Nat} {S' : z_St} (h : txM T n S) (hf : f21 S S') : txM T n S' := h.f (fun i => hf.1 82 i (by omega)) (hf.1 70 19 (by omega))
theorem m_dig {T : Nat → Int} {n0 : Nat} (hn0 : n0 ≤ 700) (d z : Nat) : ∀ (k q n : Nat) (v : Int) (S : z_St) (x1 : Option Value), q + k = n0 → k + 1 ≤ n → txM T n0 S → S.1 70 18 = iI (q : Int) → S.1 70 21 = iI v → 0 ≤ v ∧ v ≤ 100000 → ∃ S' n', n ≤ n' + k + 1 ∧ z_R120 (d + 1) n 123 z [some (.ref 70), x1] [] S = z_R120 (d + 1) n' 178 z [some (.ref 70), none] [] S' ∧ S'.1 70 18 = iI (rnF tkD T k q : Int) ∧ S'.1 70 21 = iI (cvF 100000 T k q v) ∧ f21 S S' := by
  intro k
  induction k with
  | zero =>
    intro q n v S x1 hq hn hT h h21 hv
    obtain ⟨n, rfl⟩ : ∃ m, n = m + 1 := ⟨n - 1, by omega⟩
    have hb : btM T n0 q = -1 := by
      unfold btM
      rw [if_neg (by omega)]
    refine ⟨S, n, by omega, ?_, h, h21, fun _ _ _ => rfl, rfl⟩
    rw [zq_120_123, h, m_byt hn0 hT (by omega) d, cli_i, hb, m_isD (by decide) d, cli_i, if_pos (by rfl)]
  | succ k ih =>
    intro q n v S x1 hq hn hT h h21 hv
    obtain ⟨n, rfl⟩ : ∃ m, n = m + 1 := ⟨n - 1, by omega⟩
    have e2 : (q : Int) + ((1 : Nat) : Int) = ((q + 1 : Nat) : Int) := by omega
    have hr := (hT.2 q (by omega)).1
    have hb : btM T n0 q = T q := by
      unfold btM
      rw [if_pos (by omega)]
    by_cases c : tkD (T q) = true
    · have hc : 48 ≤ T q ∧ T q ≤ 57 := of_decide_eq_true c
      have hmn : 0 ≤ mnI 100000 (v * 10 + T q - 48) ∧ mnI 100000 (v * 10 + T q - 48) ≤ 100000 := by
        unfold mnI
        split <;> omega
      have fw : f21 S (z_w1 (z_w1 S.1 70 21 (iI (mnI 100000 (v * 10 + T q - 48)))) 70 18 (iI ((q + 1 : Nat) : Int)), S.2) := by
        refine ⟨fun a i h => ?_, rfl⟩
        dsimp only
        rw [z_w1_r, if_neg (by omega), z_w1_r, if_neg (by omega)]
      obtain ⟨S', n', a1, a2, a3, a5, a4⟩ := ih (q + 1) n (mnI 100000 (v * 10 + T q - 48)) (z_w1 (z_w1 S.1 70 21 (iI (mnI 100000 (v * 10 + T q - 48)))) 70 18 (iI ((q + 1 : Nat) : Int)), S.2) none (by omega) (by omega) (hT.h fw) (by dsimp only; rw [z_w1_r, if_pos ⟨rfl, rfl⟩]) (by dsimp only; rw [z_w1_r, if_neg (by omega), z_w1_r, if_pos ⟨rfl, rfl⟩]) hmn
      refine ⟨S', n', by omega, ?_, by rw [rnF_s, if_pos c]; exact a3, by rw [cvF_s, if_pos c]; exact a5, fw.tr a4⟩
      rw [zq_120_123, h, m_byt hn0 hT (by omega) d, cli_i, hb, m_isD (by omega) d, cli_i, c, if_neg (by decide +kernel), h, m_byt hn0 hT (by omega) d, cli_i, hb, h21, iI_n 10, iI_n 48, iI_n 100000, iI_mul, iI_add, iI_sub, show ((10 : Nat) : Int) * v + T q - ((48 : Nat) : Int) = v * 10 + T q - 48 by omega]
      rw [zy_188 d _ _ _ (by decide) (by decide) (by omega) (by omega), cli_i, h, iI_n 1, iI_add, e2]
      exact a2
    · refine ⟨S, n, by omega, ?_, by rw [rnF_s, if_neg c]; exact h, by rw [cvF_s, if_neg c]; exact h21, fun _ _ _ => rfl, rfl⟩
      rw [zq_120_123, h, m_byt hn0 hT (by omega) d, cli_i, hb, m_isD (by omega) d, cli_i, Bool.eq_false_iff.mpr c, if_pos (by rfl)]
end MDG
