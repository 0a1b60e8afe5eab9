/-! loan: the call -/
section LNC
variable {p : Nat} {A : aS} {S : z_St}
def tb5 (y : Nat) : Bool := decide (mn y = 0) || (decide (26 ≤ y ∧ y ≤ 31) && decide (mi y = y + 63)) || !(decide (89 ≤ mi y ∧ mi y ≤ 94))
theorem tb5_ok : ∀ y, y < 67 → tb5 y = true := by decide +kernel
theorem m_out (h : MI A S) (hw : wf A) {n a : Nat} {v : Int32} (hn : A 4 0 = n) (h1 : 89 ≤ a) (h2 : a ≤ 94) : MI A (z_w1 S.1 a n v, S.2) := by
  refine ⟨h.1.f (fun y hy j hj => ?_), ?_⟩
  · show z_w1 S.1 a n v (mi y) (mx y j) = _
    rw [z_w1_r, if_neg]
    rintro ⟨e1, e2⟩
    have hm := mD_le hw y hy
    have ht := tb5_ok y hy
    unfold tb5 at ht
    rw [decide_eq_false (show ¬ mn y = 0 by omega), Bool.false_or, decide_eq_true (show 89 ≤ mi y ∧ mi y ≤ 94 by omega), Bool.not_true, Bool.or_false, Bool.and_eq_true] at ht
    have g1 : 26 ≤ y ∧ y ≤ 31 := of_decide_eq_true ht.1
    have g2 : y = 26 ∨ y = 27 ∨ y = 28 ∨ y = 29 ∨ y = 30 ∨ y = 31 := by omega
    have g3 : mx y j = j := by rcases g2 with rfl | rfl | rfl | rfl | rfl | rfl <;> (show 0 + 1 * j = j; omega)
    have g4 : j < (A 4 0).toNat := by rcases g2 with rfl | rfl | rfl | rfl | rfl | rfl <;> exact hj
    omega
  · show z_w1 S.1 a n v 70 63 = _ ∨ z_w1 S.1 a n v 70 63 = _ ∧ _
    rw [z_w1_r, if_neg (by omega)]
    exact h.2
theorem MI.nd (h : MI A S) {x n : Nat} {v : Int} (hx : 26 ≤ x) (hx2 : x ≤ 31) (hn : A 4 0 = n) : MI (aU A x n v) S := by
  refine ⟨fun y hy k hk => ?_, by rw [aU_r, if_neg (by omega)]; exact h.2⟩
  have hk : k < mD A y := by
    unfold mD at hk ⊢
    rwa [dD_u (by omega)] at hk
  rw [aU_r, if_neg]
  · exact h.1 y hy k hk
  · rintro ⟨e1, e2⟩
    have g2 : y = 26 ∨ y = 27 ∨ y = 28 ∨ y = 29 ∨ y = 30 ∨ y = 31 := by omega
    have g4 : k < (A 4 0).toNat := by rcases g2 with rfl | rfl | rfl | rfl | rfl | rfl <;> exact hk
    omega
def okL (A : aS) (r b : Nat) (f u : Int) : Prop := A 4 0 < 200 ∧ 1 ≤ u ∧ u ≤ 24 ∧ A 5 0 ≤ f ∧ f + u ≤ 8760 ∧ A 21 r ≤ f ∧ A 20 b ≤ f
theorem c_may (hC : CI p A S) (hw : wf A) {r b : Nat} {f u : Int} (hb : (b : Int) < A 2 0) (hr : (r : Int) < A 3 0) (f1 : -2147483648 ≤ f) (f2 : f < 2147483648) (u1 : -2147483648 ≤ u) (u2 : u < 2147483648) (d : Nat) : (okL A r b f u ∧ z_ew (d + 1) 105 [.ref 0, .int (iI (r : Int)), .int (iI (b : Int)), .int (iI f), .int (iI u)] S = some (.inl (some (.int (iI 1))), S)) ∨ (¬ okL A r b f u ∧ z_ew (d + 1) 105 [.ref 0, .int (iI (r : Int)), .int (iI (b : Int)), .int (iI f), .int (iI u)] S = some (.inl (some (.int (iI 0))), S)) := by
  have hb2 := hw.b
  have hr2 := hw.r
  have h4 := hw.l
  have h5 : 0 ≤ A 5 0 ∧ A 5 0 ≤ 8759 := hw.L.2.1
  have h20 : 0 ≤ A 20 b ∧ A 20 b ≤ 8784 := hw.L.2.2.2.2.1 b (by omega)
  have h21 : 0 ≤ A 21 r ∧ A 21 r ≤ 8784 := hw.L.2.2.2.2.2.1 r (by omega)
  have e0 : iI 0 = nI 0 := rfl
  have e1 : iI 1 = nI 1 := rfl
  have no : ∀ n x0 x1 x2 x3 x4, z_R105 d (n + 2) 88 0 [x0, x1, x2, x3, x4] [] S = some (.inl (some (.int (iI 0))), S) := by
    intro n x0 x1 x2 x3 x4
    rw [zq_105_88, zq_105_89, rbn0, cond_true]
    rfl
  rw [zx_105, c_4 hC, iI_n 200, iI_n 24]
  unfold okL
  by_cases g1 : 200 ≤ A 4 0
  · rw [if_pos (by rw [iI_le (by decide) (by decide) (by omega) (by omega)]; omega), zq_105_26]
    exact Or.inr ⟨by omega, rfl⟩
  · rw [if_neg (by rw [iI_le (by decide) (by decide) (by omega) (by omega)]; omega), iI_n 1]
    by_cases g2 : u < 1
    · rw [if_pos (by rw [iI_lt u1 u2 (by decide) (by decide)]; omega), zq_105_26]
      exact Or.inr ⟨by omega, rfl⟩
    · rw [if_neg (by rw [iI_lt u1 u2 (by decide) (by decide)]; omega)]
      by_cases g3 : u ≤ 24
      · rw [if_pos (by rw [iI_le u1 u2 (by decide) (by decide)]; omega), zq_105_28, c_5 hC, iI_n 8759]
        by_cases g4 : f < A 5 0
        · rw [if_pos (by rw [iI_lt f1 f2 (by omega) (by omega)]; omega), no 999996]
          exact Or.inr ⟨by omega, rfl⟩
        · rw [if_neg (by rw [iI_lt f1 f2 (by omega) (by omega)]; omega)]
          by_cases g5 : 8759 < f
          · rw [if_pos (by rw [iI_lt (by decide) (by decide) f1 f2]; omega), no 999996]
            exact Or.inr ⟨by omega, rfl⟩
          · rw [if_neg (by rw [iI_lt (by decide) (by decide) f1 f2]; omega), iI_n 1, iI_add, iI_sub]
            by_cases g6 : 8760 < f + u
            · rw [if_pos (by rw [iI_lt (by decide) (by decide) (by omega) (by omega)]; omega), no 999996]
              exact Or.inr ⟨by omega, rfl⟩
            · rw [if_neg (by rw [iI_lt (by decide) (by decide) (by omega) (by omega)]; omega), ixN (by omega) (by decide), cond_true, tN (by omega), c_21 hC (by omega)]
              by_cases g7 : f < A 21 r
              · rw [if_pos (by rw [iI_lt f1 f2 (by omega) (by omega)]; omega), no 999996]
                exact Or.inr ⟨by omega, rfl⟩
              · rw [if_neg (by rw [iI_lt f1 f2 (by omega) (by omega)]; omega), ixN (by omega) (by decide), cond_true, tN (by omega), c_20 hC (by omega)]
                by_cases g8 : f < A 20 b
                · rw [if_pos (by rw [iI_lt f1 f2 (by omega) (by omega)]; omega), no 999996]
                  exact Or.inr ⟨by omega, rfl⟩
                · rw [if_neg (by rw [iI_lt f1 f2 (by omega) (by omega)]; omega), zq_105_89, ← iI_n 1, rbn1, cond_true]
                  exact Or.inl ⟨by omega, rfl⟩
      · rw [if_neg (by rw [iI_le u1 u2 (by decide) (by decide)]; omega), zq_105_26]
        exact Or.inr ⟨by omega, rfl⟩
theorem m_may (hM : MI A S) (hw : wf A) {r b : Nat} {f u : Int} (hb : (b : Int) < A 2 0) (hr : (r : Int) < A 3 0) (f1 : -2147483648 ≤ f) (f2 : f < 2147483648) (u1 : -2147483648 ≤ u) (u2 : u < 2147483648) (d n z : Nat) (x5 x6 x7 x8 x9 x10 : Option Value) : (okL A r b f u → z_R152 (d + 1) (n + 3) 27 z [some (.ref 70), some (.int (iI (r : Int))), some (.int (iI (b : Int))), some (.int (iI f)), some (.int (iI u)), x5, x6, x7, x8, x9, x10] [] S = z_R152 (d + 1) (n + 1) 109 z [some (.ref 70), some (.int (iI (r : Int))), some (.int (iI (b : Int))), some (.int (iI f)), some (.int (iI u)), some (.int (nI 1)), none, none, none, none, none] [] S) ∧ (¬ okL A r b f u → z_R152 (d + 1) (n + 3) 27 z [some (.ref 70), some (.int (iI (r : Int))), some (.int (iI (b : Int))), some (.int (iI f)), some (.int (iI u)), x5, x6, x7, x8, x9, x10] [] S = some (.inl (some (.int (iI (-1)))), (z_w1 S.1 80 1 (S.1 80 1 + nI 1), S.2))) := by
  have hb2 := hw.b
  have hr2 := hw.r
  have h4 := hw.l
  have h5 : 0 ≤ A 5 0 ∧ A 5 0 ≤ 8759 := hw.L.2.1
  have h20 : 0 ≤ A 20 b ∧ A 20 b ≤ 8784 := hw.L.2.2.2.2.1 b (by omega)
  have h21 : 0 ≤ A 21 r ∧ A 21 r ≤ 8784 := hw.L.2.2.2.2.2.1 r (by omega)
  have no : ∀ x5 x6 x7 x8 x9 x10, z_R152 (d + 1) (n + 2) 89 z [some (.ref 70), some (.int (iI (r : Int))), some (.int (iI (b : Int))), some (.int (iI f)), some (.int (iI u)), x5, x6, x7, x8, x9, x10] [] S = some (.inl (some (.int (iI (-1)))), (z_w1 S.1 80 1 (S.1 80 1 + nI 1), S.2)) := by
    intro x5 x6 x7 x8 x9 x10
    rw [zq_152_89, zq_152_90, if_pos nI_0]
    rfl
  have z1 : z_ew (d + 1) 112 [.int (iI u), .int (nI 1), .int (nI 24)] S = some (.inl (some (.int (iI (if ((1 : Nat) : Int) ≤ u ∧ u ≤ ((24 : Nat) : Int) then 1 else 0)))), S) := by
    rw [iI_n, iI_n, zy_112 d u _ _ S u1 u2 (by decide) (by decide) (by decide) (by decide)]
  rw [zq_152_27, m_4 hM]
  unfold okL
  by_cases g1 : 200 ≤ A 4 0
  · rw [if_pos (by rw [iI_n, iI_le (by decide) (by decide) (by omega) (by omega)]; omega)]
    exact ⟨fun h => by omega, fun _ => no _ _ _ _ _ _⟩
  · rw [if_neg (by rw [iI_n, iI_le (by decide) (by decide) (by omega) (by omega)]; omega), z1, cli_i]
    by_cases g2 : 1 ≤ u ∧ u ≤ 24
    · have z2 : z_ew (d + 1) 112 [.int (iI f), .int (iI (A 5 0)), .int (nI 8760 - iI u)] S = some (.inl (some (.int (iI (if A 5 0 ≤ f ∧ f ≤ ((8760 : Nat) : Int) - u then 1 else 0)))), S) := by
        rw [iI_n, iI_sub, zy_112 d f _ _ S f1 f2 (by omega) (by omega) (by omega) (by omega)]
      rw [if_neg (by rw [b01]; omega), m_5 hM, z2, cli_i]
      by_cases g3 : A 5 0 ≤ f ∧ f + u ≤ 8760
      · rw [if_neg (by rw [b01]; omega), ixN (by omega) (by decide), cond_true, tN (by omega), m_21 hM (by omega)]
        by_cases g4 : f < A 21 r
        · rw [if_pos (by rw [iI_lt f1 f2 (by omega) (by omega)]; omega)]
          exact ⟨fun h => by omega, fun _ => no _ _ _ _ _ _⟩
        · rw [if_neg (by rw [iI_lt f1 f2 (by omega) (by omega)]; omega), ixN (by omega) (by decide), cond_true, tN (by omega), m_20 hM (by omega)]
          by_cases g5 : f < A 20 b
          · rw [if_pos (by rw [iI_lt f1 f2 (by omega) (by omega)]; omega)]
            exact ⟨fun h => by omega, fun _ => no _ _ _ _ _ _⟩
          · rw [if_neg (by rw [iI_lt f1 f2 (by omega) (by omega)]; omega), zq_152_90, if_neg (show ¬ nI 1 = 0 by decide +kernel)]
            exact ⟨fun _ => rfl, fun h => absurd (by omega) h⟩
      · rw [if_pos (by rw [b01]; omega)]
        exact ⟨fun h => by omega, fun _ => no _ _ _ _ _ _⟩
    · rw [if_pos (by rw [b01]; omega)]
      exact ⟨fun h => by omega, fun _ => no _ _ _ _ _ _⟩
theorem bgn_k {A A' : aS} (h : kp A A') {r b : Nat} : bgn A' r b = bgn A r b := by
  unfold bgn
  rw [h 22 _ (by decide) (by decide) (by decide), h 12 _ (by decide) (by decide) (by decide), h 23 _ (by decide) (by decide) (by decide), h 11 _ (by decide) (by decide) (by decide), h 15 _ (by decide) (by decide) (by decide)]
def a1L (A : aS) (r b : Nat) (f : Int) : aS := if A 22 (8 * b + r) = 0 ∧ A 16 r = 1 then mkA A b r ((A 11 b).toNat - 1) f else A
theorem a1L_ok (hw : wf A) {r b : Nat} {f : Int} (hb : (b : Int) < A 2 0) (hr : (r : Int) < A 3 0) (hf : 0 ≤ f) (hf2 : f ≤ 8784) : wf (a1L A r b f) ∧ kp A (a1L A r b f) := by
  have hpg := hw.pg hb
  unfold a1L
  by_cases g : A 22 (8 * b + r) = 0 ∧ A 16 r = 1
  · rw [if_pos g]
    exact ⟨wf_mk hw hb hr (by omega) hf hf2, kp_mk A b r _ f⟩
  · rw [if_neg g]
    exact ⟨hw, kp.rf A⟩
theorem c_first (hC : CI p A S) (hw : wf A) {r b : Nat} {f u : Int} (hb : (b : Int) < A 2 0) (hr : (r : Int) < A 3 0) (d n z : Nat) (x5 x6 x7 : Option Value) : ∃ S1, z_R80 (d + 2) (n + 1) 37 z [some (.ref 0), some (.int (iI (r : Int))), some (.int (iI (b : Int))), some (.int (iI f)), some (.int (iI u)), x5, x6, x7] [] S = z_R80 (d + 2) n 106 z [some (.ref 0), some (.int (iI (r : Int))), some (.int (iI (b : Int))), some (.int (iI f)), some (.int (iI u)), some (.int (iI ((r * 10 + b : Nat) : Int))), some (.int (iI (bgn A r b))), none] [] S1 ∧ CI p (a1L A r b f) S1 ∧ fC S S1 := by
  have hb2 := hw.b
  have hr2 := hw.r
  have hcl := hw.cl (j := 8 * b + r) (by omega)
  have hpg := hw.pg hb
  have hrr := hw.rr hr
  rw [zq_80_37, cel, cli_i, c_begin hC hw hb hr d, cli_i, ixN (by omega) (by decide), cond_true, tN (by omega), c_23 hC (by omega) (by omega), iI_0]
  unfold a1L
  by_cases g : A 22 (8 * b + r) = 0
  · rw [if_pos (by rw [hcl.2.2.1.2 g]), hC.p1, hC.p2, hC.p3, hC.px (by decide) (by decide) hC.pl.2.2.2.2.2.1 (show r < 8 by omega) (by decide), hC.px (by decide) (by decide) hC.pl.1 (show b < 10 by omega) (by decide), tN (by omega), c_16 hC hr, iI_n 1]
    simp only [cond_false, cond_true]
    by_cases g2 : A 16 r = 1
    · rw [if_pos (by rw [g2]; rfl), tN (by omega), c_11 hC hb, if_pos ⟨g, g2⟩]
      obtain ⟨S1, g3, g4, g5⟩ := c_mark (t := f) (q := (A 11 b).toNat - 1) hC hw hb hr (by omega) d
      rw [show (((A 11 b).toNat - 1 + 1 : Nat) : Int) = A 11 b by omega] at g3
      refine ⟨S1, ?_, g4, g5⟩
      rw [g3, clv_v]
    · rw [if_neg (by rw [iI_eq (by omega) (by omega) (by decide) (by decide)]; omega), if_neg (fun e => g2 e.2)]
      exact ⟨S, rfl, hC, fC.rf S⟩
  · have h23 : A 23 (8 * b + r) ≠ 0 := fun e => g (hcl.2.2.1.1 e)
    rw [if_neg (by rw [iI_eq (by omega) (by omega) (by decide) (by decide)]; exact h23), if_neg (fun e => g e.1)]
    exact ⟨S, rfl, hC, fC.rf S⟩
theorem m_first (hM : MI A S) (hw : wf A) {r b : Nat} {f u : Int} (hb : (b : Int) < A 2 0) (hr : (r : Int) < A 3 0) (d n z : Nat) (x5 x6 x7 x8 x9 x10 : Option Value) : ∃ S1, z_R152 (d + 4) (n + 1) 109 z [some (.ref 70), some (.int (iI (r : Int))), some (.int (iI (b : Int))), some (.int (iI f)), some (.int (iI u)), x5, x6, x7, x8, x9, x10] [] S = z_R152 (d + 4) n 144 z [some (.ref 70), some (.int (iI (r : Int))), some (.int (iI (b : Int))), some (.int (iI f)), some (.int (iI u)), none, none, none, none, none, none] [] S1 ∧ MI (a1L A r b f) S1 ∧ fM S S1 ∧ fL S S1 := by
  have hb2 := hw.b
  have hr2 := hw.r
  have hcl := hw.cl (j := 8 * b + r) (by omega)
  have hpg := hw.pg hb
  have hrr := hw.rr hr
  rw [zq_152_109, pai, cli_i, ixN (by omega) (by decide), cond_true, tN (by omega), m_22 hM (by omega), iI_0]
  unfold a1L
  by_cases g : A 22 (8 * b + r) = 0
  · rw [if_pos (by rw [g]), ixN (by omega) (by decide), cond_true, tN (by omega), m_16 hM hr]
    by_cases g2 : A 16 r = 1
    · rw [if_neg (by rw [iI_eq (by omega) (by omega) (by decide) (by decide)]; omega), ixN (by omega) (by decide), cond_true, tN (by omega), m_11 hM hb, if_pos ⟨g, g2⟩]
      obtain ⟨S1, g3, g4, g5, g6⟩ := m_turn (t := f) (q := (A 11 b).toNat - 1) hM hw hb hr (by omega) d
      rw [show (((A 11 b).toNat - 1 + 1 : Nat) : Int) = A 11 b by omega] at g3
      refine ⟨S1, ?_, g4, g5, g6⟩
      rw [g3, clv_v]
    · rw [if_pos (by rw [iI_eq (by omega) (by omega) (by decide) (by decide)]; omega), if_neg (fun e => g2 e.2)]
      exact ⟨S, rfl, hM, fM.rf S, fL.rf S⟩
  · rw [if_neg (by rw [iI_eq (by omega) (by omega) (by decide) (by decide)]; exact g), if_neg (fun e => g e.1)]
    exact ⟨S, rfl, hM, fM.rf S, fL.rf S⟩
end LNC
