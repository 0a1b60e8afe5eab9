/-! room: the model's take -/
section TAKE
theorem t_228 (d : Nat) : ∀ (k i fu : Nat) (S : z_St), i + k = 10 → k + 1 ≤ fu → ∃ S' g, z_R138 d fu 228 0 [some (.ref 70), some (.int (iI (i : Int)))] [] S = z_R138 d g 247 0 [some (.ref 70), some (.int (iI ((10 : Nat) : Int)))] [] S' ∧ fu ≤ g + k + 1 ∧ (∀ j, i ≤ j → j < 10 → S'.1 86 j = iI 0) ∧ (∀ a j, (a ≠ 86 ∨ j < i ∨ 10 ≤ j) → S'.1 a j = S.1 a j) ∧ S'.2 = S.2 := by
  intro k
  induction k with
  | zero =>
    intro i fu S hi hf
    obtain ⟨fu, rfl⟩ : ∃ m, fu = m + 1 := ⟨fu - 1, by omega⟩
    have hi : i = 10 := by omega
    refine ⟨S, fu, ?_, by omega, fun j h1 h2 => by omega, fun _ _ _ => rfl, rfl⟩
    rw [zq_138_228, iI_n 10, if_pos (by rw [iI_le (by omega) (by omega) (by omega) (by omega)]; omega), hi]
  | succ k ih =>
    intro i fu S hi hf
    obtain ⟨fu, rfl⟩ : ∃ m, fu = m + 1 := ⟨fu - 1, by omega⟩
    obtain ⟨S', g, g1, g2, g3, g4, g5⟩ := ih (i + 1) fu (z_w1 S.1 86 i (nI 0), S.2) (by omega) (by omega)
    refine ⟨S', g, ?_, by omega, fun j h1 h2 => ?_, fun a j h1 => ?_, g5⟩
    · rw [zq_138_228, iI_n 10, if_neg (by rw [iI_le (by omega) (by omega) (by omega) (by omega)]; omega), ixN (show i < 10 by omega) (by decide), cond_true, tN (by omega), iI_n 1, iI_add, show (i : Int) + ((1 : Nat) : Int) = ((i + 1 : Nat) : Int) by omega]
      exact g1
    · by_cases e : j = i
      · rw [g4 86 j (by omega)]
        dsimp only
        rw [z_w1_r, if_pos ⟨rfl, e⟩]
        rfl
      · exact g3 j (by omega) h2
    · rw [g4 a j (by omega)]
      dsimp only
      rw [z_w1_r, if_neg (by omega)]
theorem t_249 (d : Nat) : ∀ (k i fu : Nat) (S : z_St), i + k = 8 → k + 1 ≤ fu → ∃ S' g, z_R138 d fu 249 0 [some (.ref 70), some (.int (iI (i : Int)))] [] S = z_R138 d g 268 0 [some (.ref 70), some (.int (iI ((8 : Nat) : Int)))] [] S' ∧ fu ≤ g + k + 1 ∧ (∀ j, i ≤ j → j < 8 → S'.1 87 j = iI 0) ∧ (∀ a j, (a ≠ 87 ∨ j < i ∨ 8 ≤ j) → S'.1 a j = S.1 a j) ∧ S'.2 = S.2 := by
  intro k
  induction k with
  | zero =>
    intro i fu S hi hf
    obtain ⟨fu, rfl⟩ : ∃ m, fu = m + 1 := ⟨fu - 1, by omega⟩
    have hi : i = 8 := by omega
    refine ⟨S, fu, ?_, by omega, fun j h1 h2 => by omega, fun _ _ _ => rfl, rfl⟩
    rw [zq_138_249, iI_n 8, if_pos (by rw [iI_le (by omega) (by omega) (by omega) (by omega)]; omega), hi]
  | succ k ih =>
    intro i fu S hi hf
    obtain ⟨fu, rfl⟩ : ∃ m, fu = m + 1 := ⟨fu - 1, by omega⟩
    obtain ⟨S', g, g1, g2, g3, g4, g5⟩ := ih (i + 1) fu (z_w1 S.1 87 i (nI 0), S.2) (by omega) (by omega)
    refine ⟨S', g, ?_, by omega, fun j h1 h2 => ?_, fun a j h1 => ?_, g5⟩
    · rw [zq_138_249, iI_n 8, if_neg (by rw [iI_le (by omega) (by omega) (by omega) (by omega)]; omega), ixN (show i < 8 by omega) (by decide), cond_true, tN (by omega), iI_n 1, iI_add, show (i : Int) + ((1 : Nat) : Int) = ((i + 1 : Nat) : Int) by omega]
      exact g1
    · by_cases e : j = i
      · rw [g4 87 j (by omega)]
        dsimp only
        rw [z_w1_r, if_pos ⟨rfl, e⟩]
        rfl
      · exact g3 j (by omega) h2
    · rw [g4 a j (by omega)]
      dsimp only
      rw [z_w1_r, if_neg (by omega)]
theorem t_305 (d : Nat) : ∀ (k i fu : Nat) (S : z_St), i + k = 32080 → k + 1 ≤ fu → ∃ S' g, z_R138 d fu 305 0 [some (.ref 70), some (.int (iI (i : Int)))] [] S = z_R138 d g 325 0 [some (.ref 70), some (.int (iI ((32080 : Nat) : Int)))] [] S' ∧ fu ≤ g + k + 1 ∧ (∀ j, i ≤ j → j < 32080 → S'.1 88 j = iI 0) ∧ (∀ a j, (a ≠ 88 ∨ j < i ∨ 32080 ≤ j) → S'.1 a j = S.1 a j) ∧ S'.2 = S.2 := by
  intro k
  induction k with
  | zero =>
    intro i fu S hi hf
    obtain ⟨fu, rfl⟩ : ∃ m, fu = m + 1 := ⟨fu - 1, by omega⟩
    have hi : i = 32080 := by omega
    refine ⟨S, fu, ?_, by omega, fun j h1 h2 => by omega, fun _ _ _ => rfl, rfl⟩
    rw [zq_138_305, iI_n 32080, if_pos (by rw [iI_le (by omega) (by omega) (by omega) (by omega)]; omega), hi]
  | succ k ih =>
    intro i fu S hi hf
    obtain ⟨fu, rfl⟩ : ∃ m, fu = m + 1 := ⟨fu - 1, by omega⟩
    obtain ⟨S', g, g1, g2, g3, g4, g5⟩ := ih (i + 1) fu (z_w1 S.1 88 i (nI 0), S.2) (by omega) (by omega)
    refine ⟨S', g, ?_, by omega, fun j h1 h2 => ?_, fun a j h1 => ?_, g5⟩
    · rw [zq_138_305, iI_n 32080, if_neg (by rw [iI_le (by omega) (by omega) (by omega) (by omega)]; omega), ixN (show i < 32080 by omega) (by decide), cond_true, tN (by omega), show vp_nar .boolean (nI 0) = nI 0 by decide +kernel, iI_n 1, iI_add, show (i : Int) + ((1 : Nat) : Int) = ((i + 1 : Nat) : Int) by omega]
      exact g1
    · by_cases e : j = i
      · rw [g4 88 j (by omega)]
        dsimp only
        rw [z_w1_r, if_pos ⟨rfl, e⟩]
        rfl
      · exact g3 j (by omega) h2
    · rw [g4 a j (by omega)]
      dsimp only
      rw [z_w1_r, if_neg (by omega)]
theorem t_327 (d : Nat) : ∀ (k i fu : Nat) (S : z_St), i + k = 60 → k + 1 ≤ fu → ∃ S' g, z_R138 d fu 327 0 [some (.ref 70), some (.int (iI (i : Int)))] [] S = z_R138 d g 346 0 [some (.ref 70), some (.int (iI ((60 : Nat) : Int)))] [] S' ∧ fu ≤ g + k + 1 ∧ (∀ j, i ≤ j → j < 60 → S'.1 112 j = iI 0) ∧ (∀ a j, (a ≠ 112 ∨ j < i ∨ 60 ≤ j) → S'.1 a j = S.1 a j) ∧ S'.2 = S.2 := by
  intro k
  induction k with
  | zero =>
    intro i fu S hi hf
    obtain ⟨fu, rfl⟩ : ∃ m, fu = m + 1 := ⟨fu - 1, by omega⟩
    have hi : i = 60 := by omega
    refine ⟨S, fu, ?_, by omega, fun j h1 h2 => by omega, fun _ _ _ => rfl, rfl⟩
    rw [zq_138_327, iI_n 60, if_pos (by rw [iI_le (by omega) (by omega) (by omega) (by omega)]; omega), hi]
  | succ k ih =>
    intro i fu S hi hf
    obtain ⟨fu, rfl⟩ : ∃ m, fu = m + 1 := ⟨fu - 1, by omega⟩
    obtain ⟨S', g, g1, g2, g3, g4, g5⟩ := ih (i + 1) fu (z_w1 S.1 112 i (nI 0), S.2) (by omega) (by omega)
    refine ⟨S', g, ?_, by omega, fun j h1 h2 => ?_, fun a j h1 => ?_, g5⟩
    · rw [zq_138_327, iI_n 60, if_neg (by rw [iI_le (by omega) (by omega) (by omega) (by omega)]; omega), ixN (show i < 60 by omega) (by decide), cond_true, tN (by omega), iI_n 1, iI_add, show (i : Int) + ((1 : Nat) : Int) = ((i + 1 : Nat) : Int) by omega]
      exact g1
    · by_cases e : j = i
      · rw [g4 112 j (by omega)]
        dsimp only
        rw [z_w1_r, if_pos ⟨rfl, e⟩]
        rfl
      · exact g3 j (by omega) h2
    · rw [g4 a j (by omega)]
      dsimp only
      rw [z_w1_r, if_neg (by omega)]
theorem t_18 (d : Nat) : ∀ (k i fu : Nat) (S : z_St), i + k = 10 → k + 1 ≤ fu → ∃ S' g, z_R138 d fu 18 0 [some (.ref 70), some (.int (iI (i : Int)))] [] S = z_R138 d g 60 0 [some (.ref 70), some (.int (iI ((10 : Nat) : Int)))] [] S' ∧ fu ≤ g + k + 1 ∧ (∀ j, i ≤ j → j < 10 → S'.1 72 j = S.1 72 (10 + j) ∧ S'.1 73 j = S.1 73 (10 + j)) ∧ (∀ a j, (a ≠ 72 ∧ a ≠ 73) ∨ j < i ∨ 10 ≤ j → S'.1 a j = S.1 a j) ∧ S'.2 = S.2 := by
  intro k
  induction k with
  | zero =>
    intro i fu S hi hf
    obtain ⟨fu, rfl⟩ : ∃ m, fu = m + 1 := ⟨fu - 1, by omega⟩
    have hi : i = 10 := by omega
    refine ⟨S, fu, ?_, by omega, fun j h1 h2 => by omega, fun _ _ _ => rfl, rfl⟩
    rw [zq_138_18, iI_n 10, if_pos (by rw [iI_le (by omega) (by omega) (by omega) (by omega)]; omega), hi]
  | succ k ih =>
    intro i fu S hi hf
    obtain ⟨fu, rfl⟩ : ∃ m, fu = m + 1 := ⟨fu - 1, by omega⟩
    obtain ⟨S', g, g1, g2, g3, g4, g5⟩ := ih (i + 1) fu (z_w1 (z_w1 S.1 72 i (S.1 72 (10 + i))) 73 i (S.1 73 (10 + i)), S.2) (by omega) (by omega)
    refine ⟨S', g, ?_, by omega, fun j h1 h2 => ?_, fun a j h1 => ?_, g5⟩
    · rw [zq_138_18, iI_n 10, if_neg (by rw [iI_le (by omega) (by omega) (by omega) (by omega)]; omega), iI_add, show ((10 : Nat) : Int) + (i : Int) = ((10 + i : Nat) : Int) by omega, ixN (show 10 + i < 20 by omega) (by decide), cond_true, ixN (show i < 20 by omega) (by decide), cond_true, cond_true, cond_true, tN (show i < 2147483648 by omega), tN (show 10 + i < 2147483648 by omega), iI_n 1, iI_add, show (i : Int) + ((1 : Nat) : Int) = ((i + 1 : Nat) : Int) by omega]
      exact g1
    · by_cases e : j = i
      · subst e
        refine ⟨?_, ?_⟩
        · rw [g4 72 j (by omega)]
          dsimp only
          rw [z_w1_r, if_neg (by omega), z_w1_r, if_pos ⟨rfl, rfl⟩]
        · rw [g4 73 j (by omega)]
          dsimp only
          rw [z_w1_r, if_pos ⟨rfl, rfl⟩]
      · have hq := g3 j (by omega) h2
        dsimp only at hq
        rw [z_w1_r, if_neg (by omega), z_w1_r, if_neg (by omega), z_w1_r, if_neg (by omega), z_w1_r, if_neg (by omega)] at hq
        exact hq
    · rw [g4 a j (by omega)]
      dsimp only
      rw [z_w1_r, if_neg (by omega), z_w1_r, if_neg (by omega)]
theorem t_62 (d : Nat) : ∀ (k i fu : Nat) (S : z_St), i + k = 8 → k + 1 ≤ fu → ∃ S' g, z_R138 d fu 62 0 [some (.ref 70), some (.int (iI (i : Int)))] [] S = z_R138 d g 164 0 [some (.ref 70), some (.int (iI ((8 : Nat) : Int)))] [] S' ∧ fu ≤ g + k + 1 ∧ (∀ j, i ≤ j → j < 8 → S'.1 74 j = S.1 74 (8 + j) ∧ S'.1 75 j = S.1 75 (8 + j) ∧ S'.1 76 j = S.1 76 (8 + j) ∧ S'.1 81 j = vp_nar .boolean (S.1 81 (8 + j)) ∧ S'.1 77 j = S.1 77 (8 + j) ∧ S'.1 78 j = S.1 78 (8 + j)) ∧ (∀ a j, (a ≠ 74 ∧ a ≠ 75 ∧ a ≠ 76 ∧ a ≠ 81 ∧ a ≠ 77 ∧ a ≠ 78) ∨ j < i ∨ 8 ≤ j → S'.1 a j = S.1 a j) ∧ S'.2 = S.2 := by
  intro k
  induction k with
  | zero =>
    intro i fu S hi hf
    obtain ⟨fu, rfl⟩ : ∃ m, fu = m + 1 := ⟨fu - 1, by omega⟩
    have hi : i = 8 := by omega
    refine ⟨S, fu, ?_, by omega, fun j h1 h2 => by omega, fun _ _ _ => rfl, rfl⟩
    rw [zq_138_62, iI_n 8, if_pos (by rw [iI_le (by omega) (by omega) (by omega) (by omega)]; omega), hi]
  | succ k ih =>
    intro i fu S hi hf
    obtain ⟨fu, rfl⟩ : ∃ m, fu = m + 1 := ⟨fu - 1, by omega⟩
    obtain ⟨S', g, g1, g2, g3, g4, g5⟩ := ih (i + 1) fu (z_w1 (z_w1 (z_w1 (z_w1 (z_w1 (z_w1 S.1 74 i (S.1 74 (8 + i))) 75 i (S.1 75 (8 + i))) 76 i (S.1 76 (8 + i))) 81 i (vp_nar .boolean (S.1 81 (8 + i)))) 77 i (S.1 77 (8 + i))) 78 i (S.1 78 (8 + i)), S.2) (by omega) (by omega)
    refine ⟨S', g, ?_, by omega, fun j h1 h2 => ?_, fun a j h1 => ?_, g5⟩
    · rw [zq_138_62, iI_n 8, if_neg (by rw [iI_le (by omega) (by omega) (by omega) (by omega)]; omega), iI_add, show ((8 : Nat) : Int) + (i : Int) = ((8 + i : Nat) : Int) by omega, ixN (show 8 + i < 16 by omega) (by decide), cond_true, ixN (show i < 16 by omega) (by decide), cond_true, cond_true, cond_true, cond_true, cond_true, cond_true, cond_true, cond_true, cond_true, cond_true, cond_true, tN (show i < 2147483648 by omega), tN (show 8 + i < 2147483648 by omega), iI_n 1, iI_add, show (i : Int) + ((1 : Nat) : Int) = ((i + 1 : Nat) : Int) by omega]
      exact g1
    · by_cases e : j = i
      · subst e
        refine ⟨?_, ?_, ?_, ?_, ?_, ?_⟩
        · rw [g4 74 j (by omega)]
          dsimp only
          rw [z_w1_r, if_neg (by omega), z_w1_r, if_neg (by omega), z_w1_r, if_neg (by omega), z_w1_r, if_neg (by omega), z_w1_r, if_neg (by omega), z_w1_r, if_pos ⟨rfl, rfl⟩]
        · rw [g4 75 j (by omega)]
          dsimp only
          rw [z_w1_r, if_neg (by omega), z_w1_r, if_neg (by omega), z_w1_r, if_neg (by omega), z_w1_r, if_neg (by omega), z_w1_r, if_pos ⟨rfl, rfl⟩]
        · rw [g4 76 j (by omega)]
          dsimp only
          rw [z_w1_r, if_neg (by omega), z_w1_r, if_neg (by omega), z_w1_r, if_neg (by omega), z_w1_r, if_pos ⟨rfl, rfl⟩]
        · rw [g4 81 j (by omega)]
          dsimp only
          rw [z_w1_r, if_neg (by omega), z_w1_r, if_neg (by omega), z_w1_r, if_pos ⟨rfl, rfl⟩]
        · rw [g4 77 j (by omega)]
          dsimp only
          rw [z_w1_r, if_neg (by omega), z_w1_r, if_pos ⟨rfl, rfl⟩]
        · rw [g4 78 j (by omega)]
          dsimp only
          rw [z_w1_r, if_pos ⟨rfl, rfl⟩]
      · have hq := g3 j (by omega) h2
        dsimp only at hq
        rw [z_w1_r, if_neg (by omega), z_w1_r, if_neg (by omega), z_w1_r, if_neg (by omega), z_w1_r, if_neg (by omega), z_w1_r, if_neg (by omega), z_w1_r, if_neg (by omega), z_w1_r, if_neg (by omega), z_w1_r, if_neg (by omega), z_w1_r, if_neg (by omega), z_w1_r, if_neg (by omega), z_w1_r, if_neg (by omega), z_w1_r, if_neg (by omega), z_w1_r, if_neg (by omega), z_w1_r, if_neg (by omega), z_w1_r, if_neg (by omega), z_w1_r, if_neg (by omega), z_w1_r, if_neg (by omega), z_w1_r, if_neg (by omega), z_w1_r, if_neg (by omega), z_w1_r, if_neg (by omega), z_w1_r, if_neg (by omega), z_w1_r, if_neg (by omega), z_w1_r, if_neg (by omega), z_w1_r, if_neg (by omega), z_w1_r, if_neg (by omega), z_w1_r, if_neg (by omega), z_w1_r, if_neg (by omega), z_w1_r, if_neg (by omega), z_w1_r, if_neg (by omega), z_w1_r, if_neg (by omega), z_w1_r, if_neg (by omega), z_w1_r, if_neg (by omega), z_w1_r, if_neg (by omega), z_w1_r, if_neg (by omega), z_w1_r, if_neg (by omega), z_w1_r, if_neg (by omega)] at hq
        exact hq
    · rw [g4 a j (by omega)]
      dsimp only
      rw [z_w1_r, if_neg (by omega), z_w1_r, if_neg (by omega), z_w1_r, if_neg (by omega), z_w1_r, if_neg (by omega), z_w1_r, if_neg (by omega), z_w1_r, if_neg (by omega)]
theorem t_270 (d : Nat) : ∀ (k i fu : Nat) (S : z_St), i + k = 80 → k + 1 ≤ fu → ∃ S' g, z_R138 d fu 270 0 [some (.ref 70), some (.int (iI (i : Int)))] [] S = z_R138 d g 303 0 [some (.ref 70), some (.int (iI ((80 : Nat) : Int)))] [] S' ∧ fu ≤ g + k + 1 ∧ (∀ j, i ≤ j → j < 80 → S'.1 83 j = nI 0 ∧ S'.1 84 j = nI 0 ∧ S'.1 85 j = -nI 1) ∧ (∀ a j, (a ≠ 83 ∧ a ≠ 84 ∧ a ≠ 85) ∨ j < i ∨ 80 ≤ j → S'.1 a j = S.1 a j) ∧ S'.2 = S.2 := by
  intro k
  induction k with
  | zero =>
    intro i fu S hi hf
    obtain ⟨fu, rfl⟩ : ∃ m, fu = m + 1 := ⟨fu - 1, by omega⟩
    have hi : i = 80 := by omega
    refine ⟨S, fu, ?_, by omega, fun j h1 h2 => by omega, fun _ _ _ => rfl, rfl⟩
    rw [zq_138_270, iI_n 80, if_pos (by rw [iI_le (by omega) (by omega) (by omega) (by omega)]; omega), hi]
  | succ k ih =>
    intro i fu S hi hf
    obtain ⟨fu, rfl⟩ : ∃ m, fu = m + 1 := ⟨fu - 1, by omega⟩
    obtain ⟨S', g, g1, g2, g3, g4, g5⟩ := ih (i + 1) fu (z_w1 (z_w1 (z_w1 S.1 83 i (nI 0)) 84 i (nI 0)) 85 i (-nI 1), S.2) (by omega) (by omega)
    refine ⟨S', g, ?_, by omega, fun j h1 h2 => ?_, fun a j h1 => ?_, g5⟩
    · rw [zq_138_270, iI_n 80, if_neg (by rw [iI_le (by omega) (by omega) (by omega) (by omega)]; omega), ixN (show i < 80 by omega) (by decide), cond_true, cond_true, cond_true, tN (by omega), iI_n 1, iI_add, show (i : Int) + ((1 : Nat) : Int) = ((i + 1 : Nat) : Int) by omega]
      exact g1
    · by_cases e : j = i
      · subst e
        refine ⟨?_, ?_, ?_⟩
        · rw [g4 83 j (by omega)]
          dsimp only
          rw [z_w1_r, if_neg (by omega), z_w1_r, if_neg (by omega), z_w1_r, if_pos ⟨rfl, rfl⟩]
        · rw [g4 84 j (by omega)]
          dsimp only
          rw [z_w1_r, if_neg (by omega), z_w1_r, if_pos ⟨rfl, rfl⟩]
        · rw [g4 85 j (by omega)]
          dsimp only
          rw [z_w1_r, if_pos ⟨rfl, rfl⟩]
      · have hq := g3 j (by omega) h2
        exact hq
    · rw [g4 a j (by omega)]
      dsimp only
      rw [z_w1_r, if_neg (by omega), z_w1_r, if_neg (by omega), z_w1_r, if_neg (by omega)]
theorem t_166 (d L : Nat) (hL : L ≤ 700) : ∀ (k i fu : Nat) (S : z_St), S.1 70 27 = iI (L : Int) → i + k = L → k + 1 ≤ fu → ∃ S' g, z_R138 d fu 166 0 [some (.ref 70), some (.int (iI (i : Int)))] [] S = z_R138 d g 196 0 [some (.ref 70), some (.int (iI (L : Int)))] [] S' ∧ fu ≤ g + k + 1 ∧ (∀ j, i ≤ j → j < L → S'.1 79 j = S.1 79 (700 + j)) ∧ (∀ a j, (a ≠ 79 ∨ j < i ∨ L ≤ j) → S'.1 a j = S.1 a j) ∧ S'.2 = S.2 := by
  intro k
  induction k with
  | zero =>
    intro i fu S h27 hi hf
    obtain ⟨fu, rfl⟩ : ∃ m, fu = m + 1 := ⟨fu - 1, by omega⟩
    have hi : i = L := by omega
    refine ⟨S, fu, ?_, by omega, fun j h1 h2 => by omega, fun _ _ _ => rfl, rfl⟩
    rw [zq_138_166, h27, if_pos (by rw [iI_le (by omega) (by omega) (by omega) (by omega)]; omega), hi]
  | succ k ih =>
    intro i fu S h27 hi hf
    obtain ⟨fu, rfl⟩ : ∃ m, fu = m + 1 := ⟨fu - 1, by omega⟩
    obtain ⟨S', g, g1, g2, g3, g4, g5⟩ := ih (i + 1) fu (z_w1 S.1 79 i (S.1 79 (700 + i)), S.2) (by dsimp only; rw [z_w1_r, if_neg (by omega), h27]) (by omega) (by omega)
    refine ⟨S', g, ?_, by omega, fun j h1 h2 => ?_, fun a j h1 => ?_, g5⟩
    · rw [zq_138_166, h27, if_neg (by rw [iI_le (by omega) (by omega) (by omega) (by omega)]; omega), iI_n 700, iI_add, show ((700 : Nat) : Int) + (i : Int) = ((700 + i : Nat) : Int) by omega, ixN (show 700 + i < 1400 by omega) (by decide), cond_true, ixN (show i < 1400 by omega) (by decide), cond_true, tN (show i < 2147483648 by omega), tN (show 700 + i < 2147483648 by omega), iI_n 1, iI_add, show (i : Int) + ((1 : Nat) : Int) = ((i + 1 : Nat) : Int) by omega]
      exact g1
    · by_cases e : j = i
      · subst e
        rw [g4 79 j (by omega)]
        dsimp only
        rw [z_w1_r, if_pos ⟨rfl, rfl⟩]
      · have hq := g3 j (by omega) h2
        dsimp only at hq
        rw [z_w1_r, if_neg (by omega)] at hq
        exact hq
    · rw [g4 a j (by omega)]
      dsimp only
      rw [z_w1_r, if_neg (by omega)]
end TAKE
