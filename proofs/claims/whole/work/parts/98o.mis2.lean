/-! is the token a word: the model's -/
section MI2
variable {S : z_St}
theorem m_is {T : Nat → Int} {n0 s i : Nat} {bad : Int} (hn0 : n0 ≤ 700) (hT : txM T n0 S) (hk : tkM T n0 s S) (hs : s ≤ n0) (h1 : 1 ≤ i) (h2 : i < 17) (hb : S.1 70 24 = iI bad) (hr : 0 ≤ bad ∧ bad ≤ 3) (d : Nat) : z_ew (d + 1) 122 [.ref 70, .ref (1200 + i)] S = some (.inl (some (.int (bI (decide (bad = 0) && decide (wd T n0 s = i))))), S) := by
  have h17 : (Nat.ble 1200 (1200 + i) && Nat.blt (1200 + i) 1217) = true := by
    rw [Nat.ble_eq_true_of_le (by omega), Bool.true_and]
    exact Nat.ble_eq_true_of_le (by omega)
  have hsub : 1200 + i - 1200 = i := by omega
  have hl6 := (tx_l i h2).1
  have no : ∀ n x2 x3, z_R122 d (n + 4) 35 0 [some (.ref 70), some (.ref (1200 + i)), x2, x3] [] S = some (.inl (some (.int (bI false))), S) := by
    intro n x2 x3
    rw [zq_122_35, zq_122_36, zq_122_39, if_pos (by rfl), zq_122_82, rbn0, cond_true]
    rfl
  obtain ⟨k1, k2, k3, k4, _⟩ := hk
  rw [zx_122, hb]
  by_cases c : bad = 0
  · rw [if_pos (by rw [c]; rfl), k2, decide_eq_true c, Bool.true_and]
    by_cases cl : s < n0 ∧ tkL (T s) = true
    · have hkm : kM T n0 s = 1 := by
        unfold kM
        rw [if_neg (by omega), if_pos cl.2]
      have hen : en T n0 s = rn tkL T n0 s := by
        unfold en
        rw [if_neg (by omega), if_pos cl.2]
      have hrn := rn_r (P := tkL) (T := T) (n := n0) (q := s) hs
      have hm := mch_al (T := T) (n := n0) (e := rn tkL T n0 s) (fun k hk => (hT.2 k hk).1) hrn.2 (z_tx.getD i []) s (tx_c i h2)
      have hwd : decide (wd T n0 s = i) = (decide (s + (z_tx.getD i []).length = rn tkL T n0 s) && alM T (z_tx.getD i []) s) := by
        rw [← hm]
        cases hq : mch T (rn tkL T n0 s) (z_tx.getD i []) s
        · exact decide_eq_false (fun e => by rw [((wd_i h1 h2).mp e).2.2] at hq; cases hq)
        · exact decide_eq_true ((wd_i h1 h2).mpr ⟨cl.1, cl.2, hq⟩)
      rw [hkm, if_pos (by rfl), h17, cond_true, hsub, k4, k3, hen, iI_sub, iI_n, hwd]
      by_cases cn : s + (z_tx.getD i []).length = rn tkL T n0 s
      · rw [if_pos (by rw [iI_eq (by omega) (by omega) (by omega) (by omega)]; omega), zq_122_36, decide_eq_true cn, Bool.true_and, iI_n 0]
        have := m_al (S := S) hn0 hT k3 h2 (by omega) d 0 (z_tx.getD i []) [] 999998 true rfl (by omega)
        rw [Bool.true_and] at this
        exact this
      · rw [if_neg (by rw [iI_eq (by omega) (by omega) (by omega) (by omega)]; omega), no 999995, decide_eq_false cn, Bool.false_and]
    · have hkm : kM T n0 s ≠ 1 ∧ 0 ≤ kM T n0 s ∧ kM T n0 s ≤ 4 := by
        unfold kM
        by_cases c1 : n0 ≤ s
        · rw [if_pos c1]; decide
        · rw [if_neg c1, if_neg (fun z => cl ⟨by omega, z⟩)]
          split
          · decide
          · split <;> decide
      rw [iI_n 1, if_neg (by rw [iI_eq (by omega) (by omega) (by decide) (by decide)]; exact hkm.1), no 999995, decide_eq_false (fun e => cl ⟨((wd_i h1 h2).mp e).1, ((wd_i h1 h2).mp e).2.1⟩)]
  · rw [if_neg (by rw [iI_0, iI_eq (by omega) (by omega) (by decide) (by decide)]; exact c), no 999995, decide_eq_false c, Bool.false_and]
end MI2
