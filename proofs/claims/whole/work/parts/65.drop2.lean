section DRM
variable {A : aS} {S : z_St}
theorem m_mv {b R : Nat} {y P t : Int} (hb : b < 10) (hR : R ≤ 8) (hy : -50 ≤ y ∧ y ≤ 50) (hP : 0 ≤ P ∧ P ≤ 400) (d z : Nat) : ∀ (k i n : Nat) (A : aS) (S : z_St) (L : Int) (x6 x7 x8 : Option Value), i + k = R → 9 * k + 2 ≤ n → MI A S → wf A → A 3 0 = R → A 11 b = P → (b : Int) < A 2 0 → ∃ S1, MI (dr b y P k i A) S1 ∧ fM S S1 ∧ S1.1 70 1 = S.1 70 1 ∧ z_R154 (d + 1) n 72 z [some (.ref 70), some (.int (iI b)), some (.int (iI t)), some (.int (iI y)), some (.int (iI L)), some (.int (iI i)), x6, x7, x8] [] S = some (.inl (some (.int (iI (L + dl b y P k i A)))), (z_w1 S1.1 70 29 (iI t), S1.2)) := by
  intro k
  induction k with
  | zero =>
    intro i n A S L x6 x7 x8 hi hn h hw h3 h11 h2
    obtain ⟨n, rfl⟩ : ∃ m, n = m + 2 := ⟨n - 2, by omega⟩
    refine ⟨S, h, fM.rf S, rfl, ?_⟩
    rw [zq_154_72, m_3 h, h3, if_pos (by rw [iI_le (by omega) (by omega) (by omega) (by omega)]; omega), zq_154_178]
    show _ = some (Sum.inl (some (Value.int (iI (L + 0)))), _)
    rw [Int.add_zero]
  | succ k ih =>
    intro i n A S L x6 x7 x8 hi hn h hw h3 h11 h2
    obtain ⟨n, rfl⟩ : ∃ m, n = m + 9 := ⟨n - 9, by omega⟩
    have hs := hw.s (j := 8 * b + i) (by omega)
    have hz : dr b y P (k + 1) i A = dr b y P k (i + 1) (aU A 22 (8 * b + i) (dv y P (A 22 (8 * b + i)))) := rfl
    have hz2 : dl b y P (k + 1) i A = dlo y P (A 22 (8 * b + i)) + dl b y P k (i + 1) (aU A 22 (8 * b + i) (dv y P (A 22 (8 * b + i)))) := rfl
    have e2 : (i : Int) + ((1 : Nat) : Int) = ((i + 1 : Nat) : Int) := by omega
    have w1 := wf_dv (y := y) (P := P) hw (j := 8 * b + i) (by omega) hP.2
    rw [hz, hz2, zq_154_72, m_3 h, h3, if_neg (by rw [iI_le (by omega) (by omega) (by omega) (by omega)]; omega), pai, cli_i, ixN (by omega) (by decide), cond_true, tN (by omega), m_22 h (by omega), iI_0]
    by_cases q : A 22 (8 * b + i) ≤ 0
    · have ea : aU A 22 (8 * b + i) (dv y P (A 22 (8 * b + i))) = A := by rw [dv_le q]; exact aU_same A 22 _
      rw [ea, dlo_le q, if_neg (by rw [iI_lt (by decide) (by decide) (by omega) (by omega)]; omega), zq_154_172, iI_n 1, iI_add, e2]
      obtain ⟨S1, g1, g2, g4, g3⟩ := ih (i + 1) (n + 7) A S L none none none (by omega) (by omega) h hw h3 h11 h2
      refine ⟨S1, g1, g2, g4, ?_⟩
      rw [g3]
      exact rs (by omega)
    · rw [if_pos (by rw [iI_lt (by decide) (by decide) (by omega) (by omega)]; omega), zq_154_102, ixN (by omega) (by decide), cond_true, tN (by omega), m_22 h (by omega), iI_add]
      by_cases g : dst y P (A 22 (8 * b + i)) = true
      · have gg : y ≠ 0 ∧ 1 ≤ A 22 (8 * b + i) + y ∧ A 22 (8 * b + i) + y ≤ P := by simpa [dst] using g
        have ev : dv y P (A 22 (8 * b + i)) = A 22 (8 * b + i) + y := by unfold dv; rw [if_neg q, if_pos g]
        have el : dlo y P (A 22 (8 * b + i)) = 0 := by unfold dlo; rw [if_neg q, if_pos g]
        rw [ev] at w1
        rw [ev, el, iI_0, if_neg (by rw [iI_eq (by omega) (by omega) (by decide) (by decide)]; exact gg.1), ixN (by omega) (by decide), cond_true, tN (by omega), m_11 h h2, h11, iI_n 1, zy_112 d _ _ _ S (by omega) (by omega) (by decide) (by decide) (by omega) (by omega), cli_i, if_neg (by rw [← iI_0, b01]; omega), zq_154_137, if_neg n1c, zq_154_156, ixN (by omega) (by decide), cond_true, if_neg n1c, tN (by omega), zq_154_169, iI_n 0, iI_add, zq_154_172, iI_n 1, iI_add, e2]
        obtain ⟨S1, g1, g2, g4, g3⟩ := ih (i + 1) (n + 3) _ _ (L + ((0 : Nat) : Int)) none none none (by omega) (by omega) (m_sl h hw (j := 8 * b + i) (by omega) (A 22 (8 * b + i) + y)) w1 h3 h11 h2
        refine ⟨S1, g1, (fM_w1 (by decide) (by decide)).tr g2, ?_, ?_⟩
        · rw [g4]
          dsimp only
          rw [z_w1_r, if_neg (by omega)]
        · rw [g3]
          exact rs (by omega)
      · have gg : ¬ (y ≠ 0 ∧ 1 ≤ A 22 (8 * b + i) + y ∧ A 22 (8 * b + i) + y ≤ P) := by simpa [dst] using g
        have ev : dv y P (A 22 (8 * b + i)) = -1 := by unfold dv; rw [if_neg q, if_neg g]
        have el : dlo y P (A 22 (8 * b + i)) = 1 := by unfold dlo; rw [if_neg q, if_neg g]
        rw [ev] at w1
        rw [ev, el]
        have k136 : ∀ n x, 9 * k + 2 ≤ n → ∃ S1, MI (dr b y P k (i + 1) (aU A 22 (8 * b + i) (-1))) S1 ∧ fM S S1 ∧ S1.1 70 1 = S.1 70 1 ∧ z_R154 (d + 1) (n + 7) 136 z [some (.ref 70), some (.int (iI b)), some (.int (iI t)), some (.int (iI y)), some (.int (iI L)), some (.int (iI i)), some (.int (iI ((8 * b + i : Nat) : Int))), some (.int (iI (A 22 (8 * b + i) + y))), x] [] S = some (.inl (some (.int (iI (L + (1 + dl b y P k (i + 1) (aU A 22 (8 * b + i) (-1))))))), (z_w1 S1.1 70 29 (iI t), S1.2)) := by
          intro n x hn
          obtain ⟨S1, g1, g2, g4, g3⟩ := ih (i + 1) n _ _ (L + ((1 : Nat) : Int)) none none none (by omega) hn (m_sl h hw (j := 8 * b + i) (by omega) (-1)) w1 h3 h11 h2
          refine ⟨S1, g1, (fM_w1 (by decide) (by decide)).tr g2, ?_, ?_⟩
          · rw [g4]
            dsimp only
            rw [z_w1_r, if_neg (by omega)]
          · rw [zq_154_136, zq_154_137, if_pos nI_0, zq_154_155, nm1, zq_154_156, ixN (by omega) (by decide), cond_true, if_pos nI_0, tN (by omega), zq_154_168, zq_154_169, iI_n 1, iI_add, zq_154_172, iI_n 1, iI_add, e2, g3]
            exact rs (by omega)
        by_cases y0 : y = 0
        · rw [if_pos (by rw [y0]; rfl)]
          exact k136 n none (by omega)
        · rw [if_neg (by rw [iI_0, iI_eq (by omega) (by omega) (by decide) (by decide)]; exact y0), ixN (by omega) (by decide), cond_true, tN (by omega), m_11 h h2, h11, iI_n 1, zy_112 d _ _ _ S (by omega) (by omega) (by decide) (by decide) (by omega) (by omega), cli_i, if_pos (by rw [b01]; omega)]
          exact k136 n none (by omega)
theorem wf_5 {t : Int} (h : wf A) (h1 : 0 ≤ t) (h2 : t ≤ 8759) : wf (aU A 5 0 t) := by
  obtain ⟨g1, ⟨a1, a2, a3⟩, g3⟩ := h
  exact ⟨g1, ⟨a1, ⟨h1, h2⟩, a3⟩, g3⟩
theorem o_drop (a b c : Int32) : OpW 197 154 [.int a, .int b, .int c] := by
  intro S ⟨p, A, hC, hM, hw⟩
  obtain ⟨b1, h1, h2, rfl⟩ := iI_of a
  obtain ⟨t, h3, h4, rfl⟩ := iI_of b
  obtain ⟨y, h5, h6, rfl⟩ := iI_of c
  have hb := hw.b
  have hr := hw.r
  have hl : 0 ≤ A 5 0 ∧ A 5 0 ≤ 8759 := hw.L.2.1
  by_cases q1 : 0 ≤ b1 ∧ b1 < A 2 0
  · obtain ⟨b, rfl, k1⟩ := okB.n q1
    have hg := hw.pg k1
    have hB : 0 ≤ A 20 b ∧ A 20 b ≤ 8784 := hw.L.2.2.2.2.1 b (by omega)
    by_cases q2 : A 5 0 ≤ t ∧ t ≤ 8759 ∧ A 20 b ≤ t ∧ -50 ≤ y ∧ y ≤ 50
    · have hc5 : CI p (aU A 5 0 t) (z_w1 S.1 24 2 (iI t), S.2) := hC.w (x := 5) (j := 0) (v := t) hw (by decide) (by decide) (by decide) (dD_u (by decide))
      have w5 := wf_5 (t := t) hw (by omega) (by omega)
      obtain ⟨S1, g1, g2, g3⟩ := c_mv (b := b) (by omega) (y := y) (P := A 11 b) (by omega) (by omega) 996 0 8 0 999999 _ _ 0 none none (by omega) (by omega) hc5 w5
      obtain ⟨R, hR⟩ : ∃ R : Nat, A 3 0 = R := ⟨(A 3 0).toNat, by omega⟩
      have hz : ∀ B : aS, (∀ r : Nat, R ≤ r → r < 8 → B 22 (8 * b + r) = 0) → dr b y (A 11 b) 8 0 B = dr b y (A 11 b) R 0 B ∧ dl b y (A 11 b) 8 0 B = dl b y (A 11 b) R 0 B := by
        intro B hB0
        obtain ⟨e1, e2⟩ := dr_add (b := b) (y := y) (P := A 11 b) R (8 - R) 0 B
        rw [show R + (8 - R) = 8 by omega, Nat.zero_add] at e1 e2
        obtain ⟨e3, e4⟩ := dr_skip (b := b) (y := y) (P := A 11 b) (8 - R) R (dr b y (A 11 b) R 0 B) (fun q h1 h2 => by
          rw [dr_o R 0 B 22 (8 * b + q) (Or.inr (fun q2 h3 h4 => by omega))]
          exact hB0 q h1 (by omega))
        rw [e1, e2, e3, e4]
        exact ⟨rfl, by omega⟩
      have hA0 : ∀ r : Nat, R ≤ r → r < 8 → A 22 (8 * b + r) = 0 := fun r h1 h2 => (hw.L.2.2.2.2.2.2.2.1 b r (by omega) h2 (Or.inr (by omega))).1
      obtain ⟨z1, z2⟩ := hz A hA0
      obtain ⟨u1, u2⟩ := dr_5 (b := b) (y := y) (P := A 11 b) (t := t) 8 0 A
      have hwf : wf (dr b y (A 11 b) 8 0 (aU A 5 0 t)) := wf_dr (by omega) (by omega) 8 0 (by omega) w5
      refine opW_mk (cm := 82) (o := some (dl b y (A 11 b) 8 0 (aU A 5 0 t))) (p' := p) (A' := dr b y (A 11 b) 8 0 (aU A 5 0 t)) (S1 := S1) (fun _ _ e => w_197 e) (fun _ e => w_197x e) hw hM ?_ ((fC_w1 (by decide)).tr g2) g1 hwf (fun S2 h => ?_)
      · have hi5 : ∀ x y : Int, -iI x = iI (-x) := fun x _ => iI_neg x
        rw [zx_82 998, rqB1 hC hw k1 997, clv_v, c_5 hC, iI_n 8759, if_neg (by rw [iI_lt h3 h4 (by omega) (by omega)]; omega), if_neg (by rw [iI_lt (by decide) (by decide) h3 h4]; omega), ixN (by omega) (by decide), cond_true, tN (by omega), c_20 hC (by omega), if_neg (by rw [iI_lt h3 h4 (by omega) (by omega)]; omega), iI_n 50, iI_neg, if_neg (by rw [iI_lt h5 h6 (by decide) (by decide)]; omega), if_pos (by rw [iI_le h5 h6 (by decide) (by decide)]; omega), zq_82_63, hC.p1, hC.p2, hC.p3, hC.px (by decide) (by decide) hC.pl.1 (by omega) (by decide), tN (by omega)]
        have e11 : z_w1 S.1 24 2 (iI t) (p + 1) b = iI (A 11 b) := by
          rw [z_w1_r, if_neg (by rcases hC.1 with e | e <;> omega)]
          exact c_11 hC k1
        rw [e11, zx_14 997]
        have g3' : z_R14 997 999999 6 0 [some (.ref 24), some (.int (iI b)), some (.int (iI y)), some (.int (iI (A 11 b))), some (.int (nI 0)), some (.int (nI 0)), none, none] [] (z_w1 S.1 24 2 (iI t), S.2) = some (.inl (some (.int (iI (0 + dl b y (A 11 b) 8 0 (aU A 5 0 t))))), S1) := g3
        rw [g3', Int.zero_add]
        rfl
      · have h0 : MI A (z_w1 S2.1 70 1 (nI 0), S2.2) := h.code hw
        obtain ⟨S3, m1, m2, m4, m3⟩ := m_mv (b := b) (R := R) (y := y) (P := A 11 b) (t := t) (by omega) (by omega) (by omega) (by omega) 998 0 R 0 999997 A _ 0 none none none (by omega) (by omega) h0 hw hR rfl k1
        have m5 : MI (aU (dr b y (A 11 b) R 0 A) 5 0 t) (z_w1 S3.1 70 29 (iI t), S3.2) := m1.w (x := 5) (j := 0) (v := t) (wf_dr (by omega) (by omega) R 0 (by omega) hw) (by decide) (by decide) (by decide) (dD_u (by decide))
        rw [u1, u2, z1, z2]
        refine ⟨_, ?_, ((fM_w1 (by decide) (by decide)).tr m2).tr (fM_w1 (by decide) (by decide)), m5, ?_⟩
        · have z5 : ∀ X, z_ew 999 112 [.int (iI t), .int (iI (A 5 0)), .int (nI 8759)] X = some (.inl (some (.int (iI 1))), X) := fun X => by
            rw [iI_n, zy_112 998 t _ _ X h3 h4 (by omega) (by omega) (by decide) (by decide), if_pos (by omega)]
          have z6 : ∀ X, z_ew 999 112 [.int (iI y), .int (-nI 50), .int (nI 50)] X = some (.inl (some (.int (iI 1))), X) := fun X => by
            rw [iI_n, iI_neg, zy_112 998 y _ _ X h5 h6 (by decide) (by decide) (by decide) (by decide), if_pos (by omega)]
          rw [zx_154 999, isB1 h0 hw k1 997, cli_i, if_neg n10, zq_154_19, m_5 h0, z5, cli_i, if_neg n10, ixN (by omega) (by decide), cond_true, tN (by omega), m_20 h0 (by omega), if_neg (by rw [iI_lt h3 h4 (by omega) (by omega)]; omega), z6, cli_i, if_neg n10, zq_154_66]
          have m3' : z_R154 999 999997 72 0 [some (.ref 70), some (.int (iI b)), some (.int (iI t)), some (.int (iI y)), some (.int (nI 0)), some (.int (nI 0)), none, none, none] [] (z_w1 S2.1 70 1 (nI 0), S2.2) = some (.inl (some (.int (iI (0 + dl b y (A 11 b) R 0 A)))), (z_w1 S3.1 70 29 (iI t), S3.2)) := m3
          rw [m3', Int.zero_add]
          rfl
        · dsimp only
          rw [z_w1_r, if_neg (by omega), m4]
          exact cdz S2.1
    · refine opW_mk (cm := 82) (o := some (-1)) (p' := p) (A' := aR A 2) (S1 := (z_w1 S.1 37 2 (S.1 37 2 + nI 1), S.2)) (fun _ _ e => w_197 e) (fun _ e => w_197x e) hw hM ?_ (fC_w1 (by decide)) (cRef hC hw (by decide)) (wfR hw) (fun S2 h => ?_)
      · rw [zx_82 998, rqB1 hC hw k1 997, clv_v, c_5 hC, iI_n 8759]
        by_cases g1 : t < A 5 0
        · rw [if_pos (by rw [iI_lt h3 h4 (by omega) (by omega)]; omega), zq_82_48]; rfl
        · rw [if_neg (by rw [iI_lt h3 h4 (by omega) (by omega)]; omega)]
          by_cases g2 : ((8759 : Nat) : Int) < t
          · rw [if_pos (by rw [iI_lt (by decide) (by decide) h3 h4]; omega), zq_82_48]; rfl
          · rw [if_neg (by rw [iI_lt (by decide) (by decide) h3 h4]; omega), ixN (by omega) (by decide), cond_true, tN (by omega), c_20 hC (by omega)]
            by_cases g3 : t < A 20 b
            · rw [if_pos (by rw [iI_lt h3 h4 (by omega) (by omega)]; omega), zq_82_48]; rfl
            · rw [if_neg (by rw [iI_lt h3 h4 (by omega) (by omega)]; omega), iI_n 50, iI_neg]
              by_cases g4 : y < -50
              · rw [if_pos (by rw [iI_lt h5 h6 (by decide) (by decide)]; omega), zq_82_48]; rfl
              · rw [if_neg (by rw [iI_lt h5 h6 (by decide) (by decide)]; omega), if_neg (by rw [iI_le h5 h6 (by decide) (by decide)]; omega), zq_82_48]; rfl
      · have h0 : MI A (z_w1 S2.1 70 1 (nI 0), S2.2) := h.code hw
        refine ⟨_, ?_, (fM_w1 (by decide) (by decide)).tr (fM_w1 (S := (_, S2.2)) (a := 80) (i := 2) (by decide) (by decide)), mRef h0 hw (by decide), ?_⟩
        · have z5 : ∀ X, z_ew 999 112 [.int (iI t), .int (iI (A 5 0)), .int (nI 8759)] X = some (.inl (some (.int (iI (if A 5 0 ≤ t ∧ t ≤ ((8759 : Nat) : Int) then 1 else 0)))), X) := fun X => by
            rw [iI_n, zy_112 998 t _ _ X h3 h4 (by omega) (by omega) (by decide) (by decide)]
          have z6 : ∀ X, z_ew 999 112 [.int (iI y), .int (-nI 50), .int (nI 50)] X = some (.inl (some (.int (iI (if -((50 : Nat) : Int) ≤ y ∧ y ≤ ((50 : Nat) : Int) then 1 else 0)))), X) := fun X => by
            rw [iI_n, iI_neg, zy_112 998 y _ _ X h5 h6 (by decide) (by decide) (by decide) (by decide)]
          rw [zx_154 999, isB1 h0 hw k1 997, cli_i, if_neg n10, zq_154_19, m_5 h0, z5, cli_i]
          by_cases g1 : A 5 0 ≤ t ∧ t ≤ 8759
          · rw [if_neg (by rw [b01]; omega), ixN (by omega) (by decide), cond_true, tN (by omega), m_20 h0 (by omega)]
            by_cases g3 : t < A 20 b
            · rw [if_pos (by rw [iI_lt h3 h4 (by omega) (by omega)]; omega), zq_154_54]; rfl
            · rw [if_neg (by rw [iI_lt h3 h4 (by omega) (by omega)]; omega), z6, cli_i, if_pos (by rw [b01]; omega), zq_154_54]; rfl
          · rw [if_pos (by rw [b01]; omega), zq_154_54]; rfl
        · dsimp only
          rw [z_w1_r, if_neg (by omega), cdz]
          rfl
  · refine opW_mk (cm := 82) (o := none) (p' := p) (A' := A) (S1 := S) (fun _ _ e => w_197 e) (fun _ e => w_197x e) hw hM ?_ (fC.rf S) hC hw (fun S2 h => mQ_same hw h ?_)
    · rw [zx_82 998, rqB0 hC hw h1 h2 q1 997, clv_x, hnd_0]
      rfl
    · have h0 : MI A (z_w1 S2.1 70 1 (nI 0), S2.2) := h.code hw
      rw [zx_154 999, isB0 h0 hw h1 h2 q1 997, cli_i, if_pos z00, zx_111 998, cli_i, z_w1_w1]
      rfl
end DRM
