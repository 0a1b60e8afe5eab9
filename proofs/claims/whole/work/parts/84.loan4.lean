theorem m_addN {A : aS} {S : z_St} (h : MI A S) (hw : wf A) {n r b : Nat} (hb : (b : Int) < A 2 0) (hr : (r : Int) < A 3 0) (hn : A 4 0 = n) (h7 : n < 200) (f u g v m : Int) (r26 : S.1 89 n = iI (r : Int)) (r27 : S.1 90 n = iI (b : Int)) (r28 : S.1 91 n = iI f) (r29 : S.1 92 n = iI u) (r30 : S.1 93 n = iI g) : MI (aN A (8 * b + r) n r b f u g v m) (z_w1 (z_w1 (z_w1 (z_w1 (z_w1 (z_w1 (z_w1 S.1 94 n (iI m)) 70 28 (iI ((n + 1 : Nat) : Int))) 83 (8 * b + r) (iI v)) 84 (8 * b + r) (iI v)) 86 b (iI (f + u))) 87 r (iI (f + u))) 70 29 (iI f), S.2) := by
  have hb2 := hw.b
  have hr2 := hw.r
  have d0 : mDo A := fun x hx => mD_le hw x hx
  rw [aN_M]
  have k0 := h.nd (x := 26) (v := (r : Int)) (by decide) (by decide) hn
  have d1 := mDo_u (x := 26) (j := n) (v := (r : Int)) d0 (by decide)
  have k1 := k0.nd (x := 27) (n := n) (v := (b : Int)) (by decide) (by decide) hn
  have d2 := mDo_u (x := 27) (j := n) (v := (b : Int)) d1 (by decide)
  have k2 := k1.nd (x := 28) (n := n) (v := f) (by decide) (by decide) hn
  have d3 := mDo_u (x := 28) (j := n) (v := f) d2 (by decide)
  have k3 := k2.nd (x := 29) (n := n) (v := u) (by decide) (by decide) hn
  have d4 := mDo_u (x := 29) (j := n) (v := u) d3 (by decide)
  have k4 := k3.nd (x := 30) (n := n) (v := g) (by decide) (by decide) hn
  have d5 := mDo_u (x := 30) (j := n) (v := g) d4 (by decide)
  have k5 := k4.w2 (x := 31) (j := n) (v := m) (a := 94) (i := n) d5 (by decide) (show n < 200 from h7) (by decide) rfl (by show 0 + 1 * n = _; omega)
  have d6 := mDo_u (x := 31) (j := n) (v := m) d5 (by decide)
  have k6 := k5.i4 (n := n) d6 hn h7 (fun y h1 h2 => by
    have h3 : y = 26 ∨ y = 27 ∨ y = 28 ∨ y = 29 ∨ y = 30 ∨ y = 31 := by omega
    dsimp only
    rcases h3 with rfl | rfl | rfl | rfl | rfl | rfl <;> simp [z_w1_r, aU_r, r26, r27, r28, r29, r30])
  have d7 : mDo (aU (aU (aU (aU (aU (aU (aU A 26 n (r : Int)) 27 n (b : Int)) 28 n f) 29 n u) 30 n g) 31 n m) 4 0 ((n + 1 : Nat) : Int)) := fun y hy => by
    rw [mD_4]
    by_cases q : g4 y = true
    · rw [if_pos q]
      have h3 : 26 ≤ y ∧ y < 32 := by simpa [g4] using q
      have h2 : y = 26 ∨ y = 27 ∨ y = 28 ∨ y = 29 ∨ y = 30 ∨ y = 31 := by omega
      have e9 : ((n + 1 : Nat) : Int).toNat ≤ 200 := by omega
      rcases h2 with rfl | rfl | rfl | rfl | rfl | rfl <;> exact e9
    · rw [if_neg q]; exact d6 y hy
  have k7 := k6.w2 (x := 22) (j := 8 * b + r) (v := v) (a := 83) (i := 8 * b + r) d7 (by decide) (show 8 * b + r < 80 by omega) (by decide) rfl (by show 0 + 1 * (8 * b + r) = _; omega)
  have d8 := mDo_u (x := 22) (j := 8 * b + r) (v := v) d7 (by decide)
  have k8 := k7.w2 (x := 23) (j := 8 * b + r) (v := v) (a := 84) (i := 8 * b + r) d8 (by decide) (show 8 * b + r < 80 by omega) (by decide) rfl (by show 0 + 1 * (8 * b + r) = _; omega)
  have d9 := mDo_u (x := 23) (j := 8 * b + r) (v := v) d8 (by decide)
  have k9 := k8.w2 (x := 20) (j := b) (v := f + u) (a := 86) (i := b) d9 (by decide) (show b < 10 by omega) (by decide) rfl (by show 0 + 1 * b = _; omega)
  have d10 := mDo_u (x := 20) (j := b) (v := f + u) d9 (by decide)
  have k10 := k9.w2 (x := 21) (j := r) (v := f + u) (a := 87) (i := r) d10 (by decide) (show r < 8 by omega) (by decide) rfl (by show 0 + 1 * r = _; omega)
  have d11 := mDo_u (x := 21) (j := r) (v := f + u) d10 (by decide)
  exact k10.w2 (x := 5) (j := 0) (v := f) (a := 70) (i := 29) d11 (by decide) (by decide) (by decide) rfl rfl
theorem o_loan (a1 a2 a3 a4 : Int32) : OpW 195 152 [.int a1, .int a2, .int a3, .int a4] := by
  intro S ⟨p, A, hC, hM, hw⟩
  obtain ⟨r, h1, h2, rfl⟩ := iI_of a1
  obtain ⟨b, h3, h4, rfl⟩ := iI_of a2
  obtain ⟨f, h5, h6, rfl⟩ := iI_of a3
  obtain ⟨u, h7, h8, rfl⟩ := iI_of a4
  have hb := hw.b
  have hr := hw.r
  by_cases q1 : 0 ≤ r ∧ r < A 3 0
  · obtain ⟨r, rfl, k1⟩ := okR.n q1
    by_cases q2 : 0 ≤ b ∧ b < A 2 0
    · obtain ⟨b, rfl, k2⟩ := okB.n q2
      have hpg := hw.pg k2
      have hrr := hw.rr k1
      have hl := hw.l
      have hl5 : 0 ≤ A 5 0 ∧ A 5 0 ≤ 8759 := hw.L.2.1
      rcases c_may hC hw k2 k1 h5 h6 h7 h8 997 with ⟨ok, em⟩ | ⟨nok, em⟩
      · have ok' := ok
        unfold okL at ok'
        obtain ⟨n, hn⟩ : ∃ n : Nat, A 4 0 = n := ⟨(A 4 0).toNat, by omega⟩
        obtain ⟨w1, kk⟩ := a1L_ok (f := f) hw k2 k1 (by omega) (by omega)
        have e2 := kk 2 0 (by decide) (by decide) (by decide)
        have e3 := kk 3 0 (by decide) (by decide) (by decide)
        have e4 := kk 4 0 (by decide) (by decide) (by decide)
        have e11 := kk 11 b (by decide) (by decide) (by decide)
        have e13 := kk 13 r (by decide) (by decide) (by decide)
        have hbg := bgn_r hw k2 k1
        obtain ⟨m0, hm0⟩ : ∃ m0 : Nat, bgn A r b = ((m0 + 1 : Nat) : Int) := ⟨(bgn A r b - 1).toNat, by omega⟩
        obtain ⟨uu, hu⟩ : ∃ uu : Nat, u = uu := ⟨u.toNat, by omega⟩
        obtain ⟨P, hP⟩ : ∃ P : Nat, A 11 b = P := ⟨(A 11 b).toNat, by omega⟩
        obtain ⟨pc, hpc⟩ : ∃ pc : Nat, A 13 r = pc := ⟨(A 13 r).toNat, by omega⟩
        obtain ⟨S1, g1, g2, g3⟩ := c_first (f := f) (u := u) hC hw k2 k1 996 999998 0 none none none
        obtain ⟨v1, v2, v3, v4⟩ := ln_ok (r := r) (b := b) (m0 := m0) uu f m0 (a1L A r b f) (by omega) (by omega) w1 (by omega) (by omega) (by omega)
        obtain ⟨S2, g4, g5, g6⟩ := c_ln (p := p) (r := r) (b := b) (m0 := m0) (f := f) (u := u) 992 0 (P := P) (pc := pc) (by omega) (by omega) (by omega) uu 999999 m0 f (a1L A r b f) S1 (by omega) (by omega) (by omega) (by omega) (by omega) (by omega) w1 (by omega) (by omega) g2
        obtain ⟨Q, hQ⟩ : ∃ Q, Q = lnA r b m0 uu f m0 (a1L A r b f) := ⟨_, rfl⟩
        rw [← hQ] at v1 v2 v3 v4 g4 g5
        have w2 := v2 2 0 (by decide) (by decide) (by decide)
        have w3 := v2 3 0 (by decide) (by decide) (by decide)
        have w4 := v2 4 0 (by decide) (by decide) (by decide)
        have hwf : wf (aN Q.2 (8 * b + r) n r b f u ((m0 + 1 : Nat) : Int) ((Q.1 + 1 : Nat) : Int) ((Q.1 : Int) - m0)) := wf_aN v1 (by omega) (by omega) (by omega) (by omega) (by omega) (by omega) (by omega) (by omega) (by omega) (by omega)
        refine opW_mk (cm := 80) (o := some ((Q.1 : Int) - m0)) (p' := p) (A' := aN Q.2 (8 * b + r) n r b f u ((m0 + 1 : Nat) : Int) ((Q.1 + 1 : Nat) : Int) ((Q.1 : Int) - m0)) (S1 := (z_w1 (z_w1 (z_w1 (z_w1 (z_w1 (z_w1 (z_w1 (z_w1 (z_w1 (z_w1 (z_w1 (z_w1 S2.1 28 (r * 10 + b) (iI ((Q.1 + 1 : Nat) : Int))) 29 (r * 10 + b) (iI ((Q.1 + 1 : Nat) : Int))) 25 (n * 6) (iI (r : Int))) 25 (n * 6 + 1) (iI (b : Int))) 25 (n * 6 + 2) (iI f)) 25 (n * 6 + 3) (iI u)) 25 (n * 6 + 4) (iI ((m0 + 1 : Nat) : Int))) 25 (n * 6 + 5) (iI ((Q.1 : Int) - m0))) 24 0 (iI ((n + 1 : Nat) : Int))) 24 2 (iI f)) 26 b (iI (f + u))) 27 r (iI (f + u)), S2.2)) (fun _ _ e => w_195 e) (fun _ e => w_195x e) hw hM ?_ ?_ (c_addN g5 v1 (by omega) (by omega) (by omega) (by omega) _ _ _ _ _) hwf (fun S3 h => ?_)
        · have g4' : z_ew 998 107 [.ref 0, .int (iI (r : Int)), .int (iI (b : Int)), .int (iI ((m0 + 1 : Nat) : Int)), .int (iI f), .int (iI u)] S1 = some (.inl (some (.int (iI ((Q.1 + 1 : Nat) : Int)))), S2) := by
            rw [zx_107 997]
            exact g4
          have e24 : z_w1 (z_w1 S2.1 28 (r * 10 + b) (iI ((Q.1 + 1 : Nat) : Int))) 29 (r * 10 + b) (iI ((Q.1 + 1 : Nat) : Int)) 24 0 = iI (n : Int) := by
            rw [z_w1_r, if_neg (by omega), z_w1_r, if_neg (by omega), c_4 g5, w4, e4, hn]
          have e6 : iI (n : Int) * nI 6 = iI ((n * 6 : Nat) : Int) := by rw [iI_n, iI_mul]; congr 1
          have e6k : ∀ k : Nat, iI ((n * 6 : Nat) : Int) + nI k = iI ((n * 6 + k : Nat) : Int) := fun k => by rw [iI_n, iI_add]; congr 1
          have e7 : iI (n : Int) + nI 1 = iI ((n + 1 : Nat) : Int) := by rw [iI_n, iI_add]; congr 1
          have ed : iI ((Q.1 + 1 : Nat) : Int) - iI ((m0 + 1 : Nat) : Int) = iI ((Q.1 : Int) - m0) := by rw [iI_sub]; congr 1; omega
          rw [zx_80 998, rqR1 hC hw k1 997, clv_v, rqB1 hC hw k2 997, clv_v, em, cli_i, if_neg n10, g1, zq_80_106, hm0, g4', cli_i, ixN (by omega) (by decide), tN (by omega), ed]
          simp only [cond_true]
          rw [zx_12 997]
          dsimp only
          rw [e24, e6, e6k, e6k, e6k, e6k, e6k, e7, ixN (by omega) (by decide), ixN (by omega) (by decide), ixN (by omega) (by decide), ixN (by omega) (by decide), ixN (by omega) (by decide), ixN (by omega) (by decide), ixN (by omega) (by decide), ixN (by omega) (by decide), tN (by omega), tN (by omega), tN (by omega), tN (by omega), tN (by omega), tN (by omega), tN (by omega), tN (by omega), iI_add]
          rfl
        · have fw : ∀ (M : z_Mi) (x i : Nat) (v : Int32), x < 70 → fC (M, S2.2) (z_w1 M x i v, S2.2) := fun M x i v hx => fC_w1 (S := (M, S2.2)) hx
          exact (g3.tr g6).tr ((((((((((((fw _ 28 _ _ (by decide)).tr (fw _ 29 _ _ (by decide))).tr (fw _ 25 _ _ (by decide))).tr (fw _ 25 _ _ (by decide))).tr (fw _ 25 _ _ (by decide))).tr (fw _ 25 _ _ (by decide))).tr (fw _ 25 _ _ (by decide))).tr (fw _ 25 _ _ (by decide))).tr (fw _ 24 _ _ (by decide))).tr (fw _ 24 _ _ (by decide))).tr (fw _ 26 _ _ (by decide))).tr (fw _ 27 _ _ (by decide)))
        · have h0 : MI A (z_w1 S3.1 70 1 (nI 0), S3.2) := h.code hw
          obtain ⟨S4, t1, t2, t3, t4⟩ := m_first (f := f) (u := u) h0 hw k2 k1 995 999996 0 (some (.int (nI 1))) none none none none none
          have tb := m_begin t2 w1 (r := r) (b := b) (by omega) (by omega) 997
          rw [bgn_k kk, hm0] at tb
          have e28 : S4.1 70 28 = iI (n : Int) := by rw [m_4 t2, e4, hn]
          obtain ⟨S5, hS5⟩ : ∃ S5 : z_St, S5 = (z_w1 (z_w1 (z_w1 (z_w1 (z_w1 S4.1 89 n (iI (r : Int))) 90 n (iI (b : Int))) 91 n (iI f)) 92 n (iI u)) 93 n (iI ((m0 + 1 : Nat) : Int)), S4.2) := ⟨_, rfl⟩
          have n4 : a1L A r b f 4 0 = n := by omega
          have hM5 : MI (a1L A r b f) S5 := by
            rw [hS5]
            exact m_out (S := (_, S4.2)) (m_out (S := (_, S4.2)) (m_out (S := (_, S4.2)) (m_out (S := (_, S4.2)) (m_out t2 w1 n4 (by decide) (by decide)) w1 n4 (by decide) (by decide)) w1 n4 (by decide) (by decide)) w1 n4 (by decide) (by decide)) w1 n4 (by decide) (by decide)
          have fm5 : fM S4 S5 := by
            rw [hS5]
            have fw : ∀ (M : z_Mi) (x i : Nat) (v : Int32), 70 ≤ x → x < 116 → fM (M, S4.2) (z_w1 M x i v, S4.2) := fun M x i v hx hx2 => fM_w1 (S := (M, S4.2)) hx hx2
            exact ((((fw _ 89 _ _ (by decide) (by decide)).tr (fw _ 90 _ _ (by decide) (by decide))).tr (fw _ 91 _ _ (by decide) (by decide))).tr (fw _ 92 _ _ (by decide) (by decide))).tr (fw _ 93 _ _ (by decide) (by decide))
          have row : S5.1 89 n = iI (r : Int) ∧ S5.1 90 n = iI (b : Int) ∧ S5.1 91 n = iI f ∧ S5.1 92 n = iI u ∧ S5.1 93 n = iI ((m0 + 1 : Nat) : Int) ∧ S5.1 70 1 = S4.1 70 1 := by
            rw [hS5]
            dsimp only
            refine ⟨?_, ?_, ?_, ?_, ?_, ?_⟩ <;> simp [z_w1_r]
          obtain ⟨S6, m6, s1, s2, s3, s4⟩ := m_ln (r := r) (b := b) (m0 := m0) (f := f) (u := u) 995 0 (P := P) (pc := pc) (by omega) (by omega) (by omega) uu 999995 m0 f (a1L A r b f) S5 none none none (by omega) (by omega) (by omega) (by omega) (by omega) (by omega) w1 (by omega) (by omega) hM5
          rw [← hQ] at s1 s2
          have hfin := m_addN s2 v1 (n := n) (r := r) (b := b) (by omega) (by omega) (by omega) (by omega) f u ((m0 + 1 : Nat) : Int) ((Q.1 + 1 : Nat) : Int) ((Q.1 : Int) - m0) (by rw [s4.2 89 n (by decide) (by decide)]; exact row.1) (by rw [s4.2 90 n (by decide) (by decide)]; exact row.2.1) (by rw [s4.2 91 n (by decide) (by decide)]; exact row.2.2.1) (by rw [s4.2 92 n (by decide) (by decide)]; exact row.2.2.2.1) (by rw [s4.2 93 n (by decide) (by decide)]; exact row.2.2.2.2.1)
          refine ⟨_, ?_, ?_, hfin, ?_⟩
          · have e285 : S6.1 70 28 = iI (n : Int) := by rw [m_4 s2, w4, e4, hn]
            have e7 : iI (n : Int) + nI 1 = iI ((n + 1 : Nat) : Int) := by rw [iI_n, iI_add]; congr 1
            have s1' : z_R152 999 999995 210 0 [some (.ref 70), some (.int (iI (r : Int))), some (.int (iI (b : Int))), some (.int (iI f)), some (.int (iI u)), none, some (.int (iI ((m0 + 1 : Nat) : Int))), some (.int (nI 0)), some (.int (iI f)), none, none] [] S5 = z_R152 999 (m6 + 1) 302 0 [some (.ref 70), some (.int (iI (r : Int))), some (.int (iI (b : Int))), some (.int (iI f)), some (.int (iI u)), none, some (.int (iI ((Q.1 + 1 : Nat) : Int))), some (.int (iI ((Q.1 : Int) - m0))), some (.int (iI (f + u))), none, none] [] S6 := by
              rw [show nI 0 = iI ((m0 : Int) - (m0 : Int)) by rw [Int.sub_self]; rfl]
              exact s1
            rw [zx_152 999, isR1 h0 hw k1 997, cli_i, if_neg n10, isB1 h0 hw k2 997, cli_i, if_neg n10, (m_may h0 hw k2 k1 h5 h6 h7 h8 998 999996 0 none none none none none none).1 ok, t1, zq_152_144, tb, cli_i, e28, ixN (by omega) (by decide), tN (by omega)]
            simp only [cond_true]
            rw [← hS5, s1', zq_152_302, e285, ixN (by omega) (by decide), cond_true, tN (by omega), e7, pai, cli_i, ixN (by omega) (by decide), cond_true, tN (by omega), pai, cli_i, ixN (by omega) (by decide), cond_true, ixN (by omega) (by decide), cond_true, ixN (by omega) (by decide), cond_true, tN (by omega), tN (by omega), tN (by omega), iI_add]
            rfl
          · have fw : ∀ (M : z_Mi) (x i : Nat) (v : Int32), 70 ≤ x → x < 116 → fM (M, S6.2) (z_w1 M x i v, S6.2) := fun M x i v hx hx2 => fM_w1 (S := (M, S6.2)) hx hx2
            exact ((((fM_w1 (S := S3) (a := 70) (i := 1) (v := nI 0) (by decide) (by decide)).tr t3).tr fm5).tr s3).tr (((((((fw _ 94 _ _ (by decide) (by decide)).tr (fw _ 70 _ _ (by decide) (by decide))).tr (fw _ 83 _ _ (by decide) (by decide))).tr (fw _ 84 _ _ (by decide) (by decide))).tr (fw _ 86 _ _ (by decide) (by decide))).tr (fw _ 87 _ _ (by decide) (by decide))).tr (fw _ 70 _ _ (by decide) (by decide)))
          · have c0 : S6.1 70 1 = iI 0 := by rw [s4.1, row.2.2.2.2.2, t4.1]; exact cdz S3.1
            dsimp only
            rw [z_w1_r, if_neg (by omega), z_w1_r, if_neg (by omega), z_w1_r, if_neg (by omega), z_w1_r, if_neg (by omega), z_w1_r, if_neg (by omega), z_w1_r, if_neg (by omega), z_w1_r, if_neg (by omega)]
            exact c0
      · refine opW_mk (cm := 80) (o := some (-1)) (p' := p) (A' := aR A 1) (S1 := (z_w1 S.1 37 1 (S.1 37 1 + nI 1), S.2)) (fun _ _ e => w_195 e) (fun _ e => w_195x e) hw hM ?_ (fC_w1 (by decide)) (cRef hC hw (by decide)) (wfR hw) (fun S2 h => ?_)
        · rw [zx_80 998, rqR1 hC hw k1 997, clv_v, rqB1 hC hw k2 997, clv_v, em, cli_i, if_pos z00]
          rfl
        · have h0 : MI A (z_w1 S2.1 70 1 (nI 0), S2.2) := h.code hw
          refine ⟨_, ?_, (fM_w1 (by decide) (by decide)).tr (fM_w1 (S := (_, S2.2)) (a := 80) (i := 1) (by decide) (by decide)), mRef h0 hw (by decide), ?_⟩
          · rw [zx_152 999, isR1 h0 hw k1 997, cli_i, if_neg n10, isB1 h0 hw k2 997, cli_i, if_neg n10, (m_may h0 hw k2 k1 h5 h6 h7 h8 998 999996 0 none none none none none none).2 nok]
            rfl
          · dsimp only
            rw [z_w1_r, if_neg (by omega), cdz]
            rfl
    · refine opW_mk (cm := 80) (o := none) (p' := p) (A' := A) (S1 := S) (fun _ _ e => w_195 e) (fun _ e => w_195x e) hw hM ?_ (fC.rf S) hC hw (fun S2 h => mQ_same hw h ?_)
      · rw [zx_80 998, rqR1 hC hw k1 997, clv_v, rqB0 hC hw h3 h4 q2 997, clv_x, hnd_0]
        rfl
      · have h0 : MI A (z_w1 S2.1 70 1 (nI 0), S2.2) := h.code hw
        rw [zx_152 999, isR1 h0 hw k1 997, cli_i, if_neg n10, isB0 h0 hw h3 h4 q2 997, cli_i, if_pos z00, zq_152_21, zx_111 998, cli_i, z_w1_w1]
        rfl
  · refine opW_mk (cm := 80) (o := none) (p' := p) (A' := A) (S1 := S) (fun _ _ e => w_195 e) (fun _ e => w_195x e) hw hM ?_ (fC.rf S) hC hw (fun S2 h => mQ_same hw h ?_)
    · rw [zx_80 998, rqR0 hC hw h1 h2 q1 997, clv_x, hnd_0]
      rfl
    · have h0 : MI A (z_w1 S2.1 70 1 (nI 0), S2.2) := h.code hw
      rw [zx_152 999, isR0 h0 hw h1 h2 q1 997, cli_i, if_pos z00, zq_152_21, zx_111 998, cli_i, z_w1_w1]
      rfl
