theorem n1c : ¬ iI ((1 : Nat) : Int) = 0 := n10
theorem fC_5 {M : z_Mi} {N : z_Ml} {a1 a2 a3 a4 a5 i1 i2 i3 i4 i5 : Nat} {v1 v2 v3 v4 v5 : Int32} (h1 : a1 < 70) (h2 : a2 < 70) (h3 : a3 < 70) (h4 : a4 < 70) (h5 : a5 < 70) : fC (M, N) (z_w1 (z_w1 (z_w1 (z_w1 (z_w1 M a1 i1 v1) a2 i2 v2) a3 i3 v3) a4 i4 v4) a5 i5 v5, N) := fun b hb => ⟨by
  show z_w1 (z_w1 (z_w1 (z_w1 (z_w1 M a1 i1 v1) a2 i2 v2) a3 i3 v3) a4 i4 v4) a5 i5 v5 b = M b
  rw [z_w1_ne (by omega), z_w1_ne (by omega), z_w1_ne (by omega), z_w1_ne (by omega), z_w1_ne (by omega)], rfl⟩
theorem fM_5 {M : z_Mi} {N : z_Ml} {a1 a2 a3 a4 a5 i1 i2 i3 i4 i5 : Nat} {v1 v2 v3 v4 v5 : Int32} (h1 : 70 ≤ a1 ∧ a1 < 116) (h2 : 70 ≤ a2 ∧ a2 < 116) (h3 : 70 ≤ a3 ∧ a3 < 116) (h4 : 70 ≤ a4 ∧ a4 < 116) (h5 : 70 ≤ a5 ∧ a5 < 116) : fM (M, N) (z_w1 (z_w1 (z_w1 (z_w1 (z_w1 M a1 i1 v1) a2 i2 v2) a3 i3 v3) a4 i4 v4) a5 i5 v5, N) := fun b hb => ⟨by
  show z_w1 (z_w1 (z_w1 (z_w1 (z_w1 M a1 i1 v1) a2 i2 v2) a3 i3 v3) a4 i4 v4) a5 i5 v5 b = M b
  rw [z_w1_ne (by omega), z_w1_ne (by omega), z_w1_ne (by omega), z_w1_ne (by omega), z_w1_ne (by omega)], rfl⟩
theorem o_look (a b c d : Int32) : OpW 202 161 [.int a, .int b, .int c, .int d] := by
  intro S ⟨p, A, hC, hM, hw⟩
  obtain ⟨b1, h1, h2, rfl⟩ := iI_of a
  obtain ⟨t, h3, h4, rfl⟩ := iI_of b
  obtain ⟨c, h5, h6, rfl⟩ := iI_of c
  obtain ⟨g, h7, h8, rfl⟩ := iI_of d
  have hb := hw.b
  have hk := hw.k
  obtain ⟨n, hn⟩ : ∃ n : Nat, A 6 0 = n := ⟨(A 6 0).toNat, by omega⟩
  by_cases q1 : 0 ≤ b1 ∧ b1 < A 2 0
  · obtain ⟨b, rfl, k1⟩ := okB.n q1
    have hcb := hw.lc (b : Int)
    have hcn : (A 6 0).toNat = n := by omega
    rw [hcn] at hcb
    have ec : ∀ d X, CI p A X → z_ew (d + 2) 16 [.ref 24, .int (iI b)] X = some (.inl (some (.int (iI (lct A b n : Int)))), X) := fun d X hX => by
      have := c_looksIn hX hw b (by omega) d
      rwa [hcn] at this
    have em : ∀ d X, MI A X → z_ew (d + 1) 160 [.ref 70, .int (iI b)] X = some (.inl (some (.int (iI (lct A b n : Int)))), X) := fun d X hX => by
      have := m_looksOf hX hw b (by omega) d
      rwa [hcn] at this
    by_cases q2 : (0 ≤ t ∧ t ≤ 8759 ∧ 0 ≤ c ∧ c ≤ 3 ∧ 1 ≤ g ∧ g ≤ 401) ∧ n < 24 ∧ lct A b n < 6
    · obtain ⟨q3, q4, q5⟩ := q2
      have hwf : wf (aL A n b t c g) := by
        obtain ⟨r0, r1, r2, r3⟩ := aL_r A n b t c g
        refine wf_6 (wf_32 (x := 35) (v := g) (wf_32 (x := 34) (v := c) (wf_32 (x := 33) (v := t) (wf_32 (x := 32) (v := (b : Int)) hw hn (by decide)) hn (by decide)) hn (by decide)) hn (by decide)) hn q4 ?_ ?_
        · rw [r0, r1, r2, r3]
          show (0 ≤ (b : Int) ∧ (b : Int) < A 2 0) ∧ _
          omega
        · rw [r0]
          have e : lct (aU (aU (aU (aU A 32 n b) 33 n t) 34 n c) 35 n g) b n = lct A b n := fb_ct_cong (fun k hk => by
            have : aU (aU (aU (aU A 32 n b) 33 n t) 34 n c) 35 n g 32 k = A 32 k := by
              rw [aU_r, if_neg (by omega), aU_r, if_neg (by omega), aU_r, if_neg (by omega), aU_r, if_neg (by omega)]
            rw [this])
          rw [e]
          exact q5
      refine opW_mk (cm := 87) (o := some (n : Int)) (p' := p) (A' := aL A n b t c g) (S1 := (z_w1 (z_w1 (z_w1 (z_w1 (z_w1 S.1 33 (n * 4) (iI b)) 33 (n * 4 + 1) (iI t)) 33 (n * 4 + 2) (iI c)) 33 (n * 4 + 3) (iI g)) 24 10 (iI ((n + 1 : Nat) : Int)), S.2)) (fun _ _ e => w_202 e) (fun _ e => w_202x e) hw hM ?_ (fC_5 (by decide) (by decide) (by decide) (by decide) (by decide)) (c_addL hC hw hn q4 b t c g) hwf (fun S2 h => ?_)
      · rw [zx_87 998, rqB1 hC hw k1 997, clv_v, iI_0, iI_n 8759, iI_n 3, iI_n 401, if_neg (by rw [iI_lt h3 h4 (by decide) (by decide)]; omega), if_neg (by rw [iI_lt (by decide) (by decide) h3 h4]; omega), if_neg (by rw [iI_lt h5 h6 (by decide) (by decide)]; omega), if_neg (by rw [iI_lt (by decide) (by decide) h5 h6]; omega), iI_n 1, if_neg (by rw [iI_lt h7 h8 (by decide) (by decide)]; omega), if_neg (by rw [iI_lt (by decide) (by decide) h7 h8]; omega), zq_87_44, if_neg n1c, c_6 hC, hn, iI_n 24, if_neg (by rw [iI_le (by decide) (by decide) (by omega) (by omega)]; omega), ec 996 S hC, cli_i, iI_n 6, if_pos (by rw [iI_lt (by omega) (by omega) (by decide) (by decide)]; omega), zq_87_91, zx_15 997, c_6 hC, hn]
        simp only [iI_n, iI_mul, iI_add, iI_sub]
        have y0 : (n : Int) * ((4 : Nat) : Int) = ((n * 4 : Nat) : Int) := by omega
        have y1 : ((n * 4 : Nat) : Int) + ((1 : Nat) : Int) = ((n * 4 + 1 : Nat) : Int) := by omega
        have y2 : ((n * 4 : Nat) : Int) + ((2 : Nat) : Int) = ((n * 4 + 2 : Nat) : Int) := by omega
        have y3 : ((n * 4 : Nat) : Int) + ((3 : Nat) : Int) = ((n * 4 + 3 : Nat) : Int) := by omega
        have y4 : (n : Int) + ((1 : Nat) : Int) - ((1 : Nat) : Int) = n := by omega
        rw [y4, y0, y1, y2, y3, ixN (show n * 4 < 96 by omega) (by decide), ixN (show n * 4 + 1 < 96 by omega) (by decide), ixN (show n * 4 + 2 < 96 by omega) (by decide), ixN (show n * 4 + 3 < 96 by omega) (by decide), tN (show n * 4 < 2147483648 by omega), tN (show n * 4 + 1 < 2147483648 by omega), tN (show n * 4 + 2 < 2147483648 by omega), tN (show n * 4 + 3 < 2147483648 by omega)]
        rfl
      · have h0 : MI A (z_w1 S2.1 70 1 (nI 0), S2.2) := h.code hw
        refine ⟨_, ?_, (fM_w1 (by decide) (by decide)).tr (fM_5 (a1 := 97) (a2 := 98) (a3 := 99) (a4 := 100) (a5 := 70) (by decide) (by decide) (by decide) (by decide) (by decide)), m_addL h0 hw hn q4 b t c g, ?_⟩
        · have z1 : ∀ X, z_ew 999 112 [.int (iI t), .int (nI 0), .int (nI 8759)] X = some (.inl (some (.int (iI 1))), X) := fun X => by
            rw [iI_n, iI_n, zy_112 998 t _ _ X h3 h4 (by decide) (by decide) (by decide) (by decide), if_pos (by omega)]
          have z2 : ∀ X, z_ew 999 112 [.int (iI c), .int (nI 0), .int (nI 3)] X = some (.inl (some (.int (iI 1))), X) := fun X => by
            rw [iI_n, iI_n, zy_112 998 c _ _ X h5 h6 (by decide) (by decide) (by decide) (by decide), if_pos (by omega)]
          have z3 : ∀ X, z_ew 999 112 [.int (iI g), .int (nI 1), .int (nI 401)] X = some (.inl (some (.int (iI 1))), X) := fun X => by
            rw [iI_n, iI_n, zy_112 998 g _ _ X h7 h8 (by decide) (by decide) (by decide) (by decide), if_pos (by omega)]
          rw [zx_161 999, isB1 h0 hw k1 997, cli_i, if_neg n10, zq_161_19, m_6 h0, hn, iI_n 24, if_neg (by rw [iI_eq (by omega) (by omega) (by decide) (by decide)]; omega), em 998 _ h0, cli_i, iI_n 6, if_neg (by rw [iI_eq (by omega) (by omega) (by decide) (by decide)]; omega), z1, cli_i, if_neg n10, z2, cli_i, if_neg n10, z3, cli_i, if_neg n10, zq_161_82, m_6 h0, hn, ixN (by omega) (by decide), tN (by omega), iI_n 1, iI_add, iI_sub]
          have y4 : (n : Int) + ((1 : Nat) : Int) - ((1 : Nat) : Int) = n := by omega
          rw [y4]
          rfl
        · dsimp only
          rw [z_w1_r, if_neg (by omega), z_w1_r, if_neg (by omega), z_w1_r, if_neg (by omega), z_w1_r, if_neg (by omega), z_w1_r, if_neg (by omega), cdz]
          rfl
    · refine opW_mk (cm := 87) (o := some (-1)) (p' := p) (A' := aR A 3) (S1 := (z_w1 S.1 37 3 (S.1 37 3 + nI 1), S.2)) (fun _ _ e => w_202 e) (fun _ e => w_202x e) hw hM ?_ (fC_w1 (by decide)) (cRef hC hw (by decide)) (wfR hw) (fun S2 h => ?_)
      · have k43 : ∀ (n : Nat) (z : Nat) (x : Option Value), z_R87 998 (n + 3) 43 z [some (.ref 0), some (.int (iI b)), some (.int (iI t)), some (.int (iI c)), some (.int (iI g)), x] [] S = some (.inl (some (.int (-nI 1))), (z_w1 S.1 37 3 (S.1 37 3 + nI 1), S.2)) := fun n z x => by
          rw [zq_87_43, zq_87_44, if_pos nI_0, zq_87_76]
        rw [zx_87 998, rqB1 hC hw k1 997, clv_v, iI_0, iI_n 8759, iI_n 3, iI_n 401]
        simp only [k43 999996, iI_lt h3 h4 (show (-2147483648 : Int) ≤ 0 by decide) (by decide), iI_lt (show (-2147483648 : Int) ≤ ((8759 : Nat) : Int) by decide) (by decide) h3 h4, iI_lt h5 h6 (show (-2147483648 : Int) ≤ 0 by decide) (by decide), iI_lt (show (-2147483648 : Int) ≤ ((3 : Nat) : Int) by decide) (by decide) h5 h6, iI_lt (show (-2147483648 : Int) ≤ ((401 : Nat) : Int) by decide) (by decide) h7 h8]
        by_cases g1 : t < 0
        · rw [if_pos g1]; rfl
        · rw [if_neg g1]
          by_cases g2 : ((8759 : Nat) : Int) < t
          · rw [if_pos g2]; rfl
          · rw [if_neg g2]
            by_cases g3 : c < 0
            · rw [if_pos g3]; rfl
            · rw [if_neg g3]
              by_cases g4 : ((3 : Nat) : Int) < c
              · rw [if_pos g4]; rfl
              · rw [if_neg g4, iI_n 1]
                by_cases g5 : g < 1
                · rw [if_pos (by rw [iI_lt h7 h8 (by decide) (by decide)]; omega), ← iI_n 1]; rfl
                · rw [if_neg (by rw [iI_lt h7 h8 (by decide) (by decide)]; omega)]
                  by_cases g6 : ((401 : Nat) : Int) < g
                  · rw [if_pos g6, ← iI_n 1]; rfl
                  · rw [if_neg g6, zq_87_44, if_neg n1c, c_6 hC, hn, iI_n 24]
                    by_cases g7 : ((24 : Nat) : Int) ≤ n
                    · rw [if_pos (by rw [iI_le (by decide) (by decide) (by omega) (by omega)]; exact g7), zq_87_76]; rfl
                    · rw [if_neg (by rw [iI_le (by decide) (by decide) (by omega) (by omega)]; exact g7), ec 996 S hC, cli_i, iI_n 6, if_neg (by rw [iI_lt (by omega) (by omega) (by decide) (by decide)]; omega), zq_87_76]; rfl
      · have h0 : MI A (z_w1 S2.1 70 1 (nI 0), S2.2) := h.code hw
        refine ⟨_, ?_, (fM_w1 (by decide) (by decide)).tr (fM_w1 (S := (_, S2.2)) (a := 80) (i := 3) (by decide) (by decide)), mRef h0 hw (by decide), ?_⟩
        · have z1 : ∀ X, z_ew 999 112 [.int (iI t), .int (nI 0), .int (nI 8759)] X = some (.inl (some (.int (iI (if ((0 : Nat) : Int) ≤ t ∧ t ≤ ((8759 : Nat) : Int) then 1 else 0)))), X) := fun X => by
            rw [iI_n, iI_n, zy_112 998 t _ _ X h3 h4 (by decide) (by decide) (by decide) (by decide)]
          have z2 : ∀ X, z_ew 999 112 [.int (iI c), .int (nI 0), .int (nI 3)] X = some (.inl (some (.int (iI (if ((0 : Nat) : Int) ≤ c ∧ c ≤ ((3 : Nat) : Int) then 1 else 0)))), X) := fun X => by
            rw [iI_n, iI_n, zy_112 998 c _ _ X h5 h6 (by decide) (by decide) (by decide) (by decide)]
          have z3 : ∀ X, z_ew 999 112 [.int (iI g), .int (nI 1), .int (nI 401)] X = some (.inl (some (.int (iI (if ((1 : Nat) : Int) ≤ g ∧ g ≤ ((401 : Nat) : Int) then 1 else 0)))), X) := fun X => by
            rw [iI_n, iI_n, zy_112 998 g _ _ X h7 h8 (by decide) (by decide) (by decide) (by decide)]
          rw [zx_161 999, isB1 h0 hw k1 997, cli_i, if_neg n10, zq_161_19, m_6 h0, hn, iI_n 24]
          by_cases g7 : (n : Int) = ((24 : Nat) : Int)
          · rw [if_pos (by rw [g7]), zq_161_70]; rfl
          · rw [if_neg (by rw [iI_eq (by omega) (by omega) (by decide) (by decide)]; exact g7), em 998 _ h0, cli_i, iI_n 6]
            by_cases g8 : (lct A b n : Int) = ((6 : Nat) : Int)
            · rw [if_pos (by rw [g8]), zq_161_70]; rfl
            · rw [if_neg (by rw [iI_eq (by omega) (by omega) (by decide) (by decide)]; exact g8), z1, cli_i]
              by_cases g1 : 0 ≤ t ∧ t ≤ 8759
              · rw [if_neg (by rw [b01]; omega), z2, cli_i]
                by_cases g2 : 0 ≤ c ∧ c ≤ 3
                · rw [if_neg (by rw [b01]; omega), z3, cli_i, if_pos (by rw [b01]; omega), zq_161_70]; rfl
                · rw [if_pos (by rw [b01]; omega), zq_161_70]; rfl
              · rw [if_pos (by rw [b01]; omega), zq_161_70]; rfl
        · dsimp only
          rw [z_w1_r, if_neg (by omega), cdz]
          rfl
  · refine opW_mk (cm := 87) (o := none) (p' := p) (A' := A) (S1 := S) (fun _ _ e => w_202 e) (fun _ e => w_202x e) hw hM ?_ (fC.rf S) hC hw (fun S2 h => mQ_same hw h ?_)
    · rw [zx_87 998, rqB0 hC hw h1 h2 q1 997, clv_x, hnd_0]
      rfl
    · have h0 : MI A (z_w1 S2.1 70 1 (nI 0), S2.2) := h.code hw
      rw [zx_161 999, isB0 h0 hw h1 h2 q1 997, cli_i, if_pos z00, zx_111 998, cli_i, z_w1_w1]
      rfl
