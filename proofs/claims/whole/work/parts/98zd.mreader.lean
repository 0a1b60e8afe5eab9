/-! the model's clause of a reader -/
section MR
variable {S : z_St} {T : Nat → Int} {n : Nat}
theorem m_138r {k : Nat} (hk : k < 8) (h5 : S.1 70 5 = iI (k : Int)) (D fu : Nat) : z_R136 D (fu + 1) 138 0 [some (.ref 70), some (.int (iI ((8 + k : Nat) : Int)))] [] S = some (.inl none, (z_w1 (z_w1 S.1 78 (8 + k) (S.1 70 27)) 70 5 (iI ((k + 1 : Nat) : Int)), S.2)) := by
  rw [zq_136_138, ixN (show 8 + k < 16 by omega) (by decide), cond_true, tN (by omega), h5, iI_n 1, iI_add, show (k : Int) + ((1 : Nat) : Int) = ((k + 1 : Nat) : Int) by omega]
theorem m_99r (hn : n ≤ 700) (hT : ∀ k, k < n → 0 ≤ T k ∧ T k ≤ 255) {r : pR} (h : RM T n r S) {k : Nat} (hk : k < 8) (h5 : S.1 70 5 = iI (k : Int)) (t0 : Int32) (d : Nat) : ∃ S' v16 v17 v18, (∀ fu, z_R136 (d + 66) (fu + 2) 99 0 [some (.ref 70), some (.int (iI ((8 + k : Nat) : Int)))] [.int t0, .int (iI ((8 + k : Nat) : Int)), .ref 76] S = some (.inl none, S')) ∧ RM T n (pB (pB r (pW T n 6)) (pLw T n)) S' ∧ frM (z_w1 (z_w1 (z_w1 (z_w1 (z_w1 S.1 76 (8 + k) t0) 81 (8 + k) v16) 77 (8 + k) v17) 78 (8 + k) v18) 70 5 (iI ((k + 1 : Nat) : Int)), S.2) S' ∧ (∀ y, r = .inl y → v16 = bI (decide (wd T n y.1 = 6)) ∧ v17 = iI (y.2.length : Int)) ∧ (∀ y, pB (pB r (pW T n 6)) (pLw T n) = .inl y → v18 = iI (y.2.length : Int)) := by
  have R1 := h.w (a0 := 76) (k := 8 + k) (v := t0) (by omega)
  obtain ⟨b, S1, b1, b2, b3, b4, b5⟩ := m_pwR hn (i := 6) (by omega) R1 (d + 63)
  have R2 := (b2.w (a0 := 81) (k := 8 + k) (v := bI b) (by omega)).w (a0 := 77) (k := 8 + k) (v := S1.1 70 27) (by omega)
  dsimp only at R2
  obtain ⟨b7, S3, e1, e2, e3, e4, e5⟩ := m_pwR hn (i := 7) (by omega) R2 (d + 63)
  have f3 : frM (z_w1 (z_w1 (z_w1 S.1 76 (8 + k) t0) 81 (8 + k) (bI b)) 77 (8 + k) (S1.1 70 27), S.2) S3 := ((b3.w).w).tr e3
  have st : ∀ fu, z_R136 (d + 66) (fu + 2) 99 0 [some (.ref 70), some (.int (iI ((8 + k : Nat) : Int)))] [.int t0, .int (iI ((8 + k : Nat) : Int)), .ref 76] S = (if bI b7 = 0 then (z_R136 (d + 66) (fu + 1) 138 0 [some (.ref 70), some (.int (iI ((8 + k : Nat) : Int)))] [] S3) else (z_clv (z_ew (d + 66) 134 [.ref 70, .int (nI 0)] S3) (fun S5 => z_R136 (d + 66) (fu + 1) 138 0 [some (.ref 70), some (.int (iI ((8 + k : Nat) : Int)))] [] S5) (z_hnd []))) := by
    intro fu
    rw [zq_136_99, ixN (show 8 + k < 16 by omega) (by decide), cond_true, tN (by omega), show (1206 : Nat) = 1200 + 6 from rfl, b1, cli_i, cond_true, cond_true, nar_b, show (1207 : Nat) = 1200 + 7 from rfl, e1, cli_i]
  have done : ∀ S5, RM T n (pB (pB r (pW T n 6)) (pLw T n)) S5 → frM S3 S5 → (∀ fu, z_R136 (d + 66) (fu + 2) 99 0 [some (.ref 70), some (.int (iI ((8 + k : Nat) : Int)))] [.int t0, .int (iI ((8 + k : Nat) : Int)), .ref 76] S = z_R136 (d + 66) (fu + 1) 138 0 [some (.ref 70), some (.int (iI ((8 + k : Nat) : Int)))] [] S5) → ∃ S' v16 v17 v18, (∀ fu, z_R136 (d + 66) (fu + 2) 99 0 [some (.ref 70), some (.int (iI ((8 + k : Nat) : Int)))] [.int t0, .int (iI ((8 + k : Nat) : Int)), .ref 76] S = some (.inl none, S')) ∧ RM T n (pB (pB r (pW T n 6)) (pLw T n)) S' ∧ frM (z_w1 (z_w1 (z_w1 (z_w1 (z_w1 S.1 76 (8 + k) t0) 81 (8 + k) v16) 77 (8 + k) v17) 78 (8 + k) v18) 70 5 (iI ((k + 1 : Nat) : Int)), S.2) S' ∧ (∀ y, r = .inl y → v16 = bI (decide (wd T n y.1 = 6)) ∧ v17 = iI (y.2.length : Int)) ∧ (∀ y, pB (pB r (pW T n 6)) (pLw T n) = .inl y → v18 = iI (y.2.length : Int)) := by
    intro S5 r5 g5 hst
    have h55 : S5.1 70 5 = iI (k : Int) := by
      rw [(f3.tr g5).2 70 5 (by omega) (by omega)]
      dsimp only
      rw [z_w1_r, if_neg (by omega), z_w1_r, if_neg (by omega), z_w1_r, if_neg (by omega), h5]
    refine ⟨_, bI b, S1.1 70 27, S5.1 70 27, fun fu => (hst fu).trans (m_138r hk h55 (d + 66) fu), (r5.w (a0 := 78) (by omega)).w (a0 := 70) (by omega), ((f3.tr g5).w).w, fun y hy => ?_, fun y hy => ?_⟩
    · rw [b4 y hy]
      refine ⟨rfl, ?_⟩
      rw [hy] at b2
      have b2 : RM T n (pW T n 6 y.1 y.2) S1 := b2
      unfold pW at b2
      exact b2.2.2.2.2.2.1
    · rw [hy] at r5
      exact r5.2.2.2.2.2.1
  cases hr : pB r (pW T n 6) with
  | inl x =>
    obtain ⟨s, c⟩ := x
    rw [hr] at done
    have e2' : RM T n (pB (pB r (pW T n 6)) (pW T n 7)) S3 := e2
    rw [hr] at e2'
    have hb : b7 = decide (wd T n s = 7) := e4 _ hr
    have e2' : RM T n (pW T n 7 s c) S3 := e2'
    unfold pW at e2'
    by_cases e : wd T n s = 7
    · rw [if_pos e] at e2'
      obtain ⟨S5, g1, g2, g3⟩ := m_lev hn hT 30 0 0 d (by omega) (by omega) (by omega) _ S3 e2'
      have hp : pB (Sum.inl (s, c)) (pLw T n) = pL T n 30 0 0 (nx T n s) c := by
        show pLw T n s c = _
        unfold pLw
        rw [if_pos e]
      refine done S5 (by rw [hp]; exact g2) g3 (fun fu => ?_)
      rw [st fu, hb, decide_eq_true e, if_neg (show ¬ bI true = 0 by decide +kernel), iI_n 0]
      have g1 : z_ew (d + 66) 134 [.ref 70, .int (iI ((0 : Nat) : Int))] S3 = some (.inl none, S5) := g1
      rw [g1, clv_v]
    · rw [if_neg e] at e2'
      have hp : pB (Sum.inl (s, c)) (pLw T n) = .inl (s, c) := by
        show pLw T n s c = _
        unfold pLw
        rw [if_neg e]
      refine done S3 (by rw [hp]; exact e2') (frM.rf S3) (fun fu => ?_)
      rw [st fu, hb, decide_eq_false e, if_pos (show bI false = 0 by rfl)]
  | inr e =>
    rw [hr] at done
    have e2' : RM T n (pB (pB r (pW T n 6)) (pW T n 7)) S3 := e2
    rw [hr] at e2'
    refine done S3 e2' (frM.rf S3) (fun fu => ?_)
    rw [st fu, e5 ⟨e, hr⟩, if_pos (show bI false = 0 by rfl)]
theorem m_72r (hn : n ≤ 700) (hT : ∀ k, k < n → 0 ≤ T k ∧ T k ≤ 255) {r : pR} (h : RM T n r S) {k : Nat} (hk : k < 8) (h5 : S.1 70 5 = iI (k : Int)) (t0 : Int32) (d : Nat) : ∃ S' v15 v16 v17 v18, (∀ fu, z_R136 (d + 66) (fu + 4) 72 0 [some (.ref 70), some (.int (iI ((8 + k : Nat) : Int)))] [.int t0, .int (iI ((8 + k : Nat) : Int)), .ref 75] S = some (.inl none, S')) ∧ RM T n (pB (pB (pB r (pOp T n 5 0 20)) (pW T n 6)) (pLw T n)) S' ∧ frM (z_w1 (z_w1 (z_w1 (z_w1 (z_w1 (z_w1 S.1 75 (8 + k) t0) 76 (8 + k) v15) 81 (8 + k) v16) 77 (8 + k) v17) 78 (8 + k) v18) 70 5 (iI ((k + 1 : Nat) : Int)), S.2) S' ∧ (∀ y z, r = .inl y → pOp T n 5 0 20 y.1 y.2 = .inl z → v15 = iI (ovI T n 5 y.1)) ∧ (∀ y, pB r (pOp T n 5 0 20) = .inl y → v16 = bI (decide (wd T n y.1 = 6)) ∧ v17 = iI (y.2.length : Int)) ∧ (∀ y, pB (pB (pB r (pOp T n 5 0 20)) (pW T n 6)) (pLw T n) = .inl y → v18 = iI (y.2.length : Int)) := by
  have R1 := h.w (a0 := 75) (k := 8 + k) (v := t0) (by omega)
  obtain ⟨x5, S4, i1, i2⟩ := m_opt hn (i := 5) (by omega) (lo := 0) (hh := 20) (by omega) (by omega) (by omega) R1 (d + 63)
  have st : ∀ fu, z_R136 (d + 66) (fu + 4) 72 0 [some (.ref 70), some (.int (iI ((8 + k : Nat) : Int)))] [.int t0, .int (iI ((8 + k : Nat) : Int)), .ref 75] S = (if x5 = 0 then (z_R136 (d + 66) (fu + 3) 98 0 [some (.ref 70), some (.int (iI ((8 + k : Nat) : Int)))] [.int (iI ((8 + k : Nat) : Int)), .ref 76] S4) else (z_cli (z_ew (d + 66) 127 [.ref 70, .int (iI 0), .int (iI 20)] S4) (fun x4 S3 => z_R136 (d + 66) (fu + 3) 99 0 [some (.ref 70), some (.int (iI ((8 + k : Nat) : Int)))] [.int x4, .int (iI ((8 + k : Nat) : Int)), .ref 76] S3) (z_hnd []))) := by
    intro fu
    rw [zq_136_72, ixN (show 8 + k < 16 by omega) (by decide), cond_true, tN (by omega), show (1205 : Nat) = 1200 + 5 from rfl, i1, cli_i]
    rfl
  have h5f : ∀ S5, frM (z_w1 S.1 75 (8 + k) t0, S.2) S5 → S5.1 70 5 = iI (k : Int) := by
    intro S5 g
    rw [g.2 70 5 (by omega) (by omega)]
    dsimp only
    rw [z_w1_r, if_neg (by omega), h5]
  rcases i2 with ⟨x0, i2, i3, i4⟩ | ⟨x0, x7, S6, i5, i2, i3, i4⟩
  · obtain ⟨S', v16, v17, v18, e1, e2, e3, e4, e5⟩ := m_99r hn hT i2 hk (h5f S4 i3) (nI 0) d
    refine ⟨S', nI 0, v16, v17, v18, fun fu => ?_, e2, (((((i3.w).w).w).w).w).tr e3, fun y z hy _ => by rw [i4 y hy]; rfl, e4, e5⟩
    rw [st fu, if_pos x0, zq_136_98, e1 fu]
  · obtain ⟨S', v16, v17, v18, e1, e2, e3, e4, e5⟩ := m_99r hn hT i2 hk (h5f S6 i3) x7 d
    refine ⟨S', x7, v16, v17, v18, fun fu => ?_, e2, (((((i3.w).w).w).w).w).tr e3, fun y z hy hz => i4 y hy z hz, e4, e5⟩
    rw [st fu, if_neg x0, i5, cli_i, e1 (fu + 1)]
theorem PM.rd {k : Nat} {B : aS} {S' : z_St} {s : Nat} {l l' : Int} (h : PM B S) (hk : B 3 0 = (k : Int)) (h8 : k < 8) {v13 v14 v15 v16 v17 v18 : Int32} (e13 : v13 = iI (nb T n (nx T n s))) (e14 : v14 = iI (ovI T n 4 (rd1 T n s))) (e15 : v15 = iI (ovI T n 5 (rd2 T n s))) (e16 : v16 = bI (decide (wd T n (rd3 T n s) = 6))) (e17 : v17 = iI l) (e18 : v18 = iI l') (hf : frM (z_w1 (z_w1 (z_w1 (z_w1 (z_w1 (z_w1 (z_w1 S.1 74 (8 + k) v13) 75 (8 + k) v14) 76 (8 + k) v15) 81 (8 + k) v16) 77 (8 + k) v17) 78 (8 + k) v18) 70 5 (iI ((k + 1 : Nat) : Int)), S.2) S') : PM (rdB T n B s l l') S' := by
  obtain ⟨p1, p2, p3, p4, p5⟩ := h
  have hkn : (B 3 0).toNat = k := by omega
  have g2 : rdB T n B s l l' 2 0 = B 2 0 := by
    unfold rdB
    rw [aU_r, if_neg (by omega), aU_r, if_neg (by omega), aU_r, if_neg (by omega), aU_r, if_neg (by omega), aU_r, if_neg (by omega), aU_r, if_neg (by omega), aU_r, if_neg (by omega)]
  have g3 : rdB T n B s l l' 3 0 = (k : Int) + 1 := by
    unfold rdB
    rw [aU_r, if_pos ⟨rfl, rfl⟩, hk]
  have fr := hf.2
  refine ⟨by rw [g2]; exact p1, by rw [g3]; omega, ?_, ?_, ?_⟩
  · rw [fr 70 4 (by omega) (by omega), g2]
    dsimp only
    rw [z_w1_r, if_neg (by omega), z_w1_r, if_neg (by omega), z_w1_r, if_neg (by omega), z_w1_r, if_neg (by omega), z_w1_r, if_neg (by omega), z_w1_r, if_neg (by omega), z_w1_r, if_neg (by omega), p3]
  · rw [fr 70 5 (by omega) (by omega), g3]
    dsimp only
    rw [z_w1_r, if_pos ⟨rfl, rfl⟩]
    rfl
  · intro x j x1 x2 hj
    obtain ⟨⟨m1, m2, m3, m4, m5, m6, m7, m8⟩, n1, n2, n3, n4⟩ := mj_e x1 x2
    rw [fr (mj x) (mOf x + j) (by omega) (by omega)]
    dsimp only
    unfold rdB
    rw [hkn, aU_r, if_neg (by omega), aU_r, aU_r, aU_r, aU_r, aU_r, aU_r, z_w1_r, z_w1_r, z_w1_r, z_w1_r, z_w1_r, z_w1_r, z_w1_r, if_neg (show ¬ (mj x = 70 ∧ mOf x + j = 5) by omega)]
    by_cases c18 : x = 18 ∧ j = k
    · rw [if_pos (show mj x = 78 ∧ mOf x + j = 8 + k by omega), if_pos c18, e18]
    rw [if_neg (show ¬ (mj x = 78 ∧ mOf x + j = 8 + k) by omega), if_neg c18]
    by_cases c17 : x = 17 ∧ j = k
    · rw [if_pos (show mj x = 77 ∧ mOf x + j = 8 + k by omega), if_pos c17, e17]
    rw [if_neg (show ¬ (mj x = 77 ∧ mOf x + j = 8 + k) by omega), if_neg c17]
    by_cases c16 : x = 16 ∧ j = k
    · rw [if_pos (show mj x = 81 ∧ mOf x + j = 8 + k by omega), if_pos c16, e16]
      by_cases w6 : wd T n (rd3 T n s) = 6
      · rw [decide_eq_true w6, if_pos w6]
        rfl
      · rw [decide_eq_false w6, if_neg w6]
        rfl
    rw [if_neg (show ¬ (mj x = 81 ∧ mOf x + j = 8 + k) by omega), if_neg c16]
    by_cases c15 : x = 15 ∧ j = k
    · rw [if_pos (show mj x = 76 ∧ mOf x + j = 8 + k by omega), if_pos c15, e15]
    rw [if_neg (show ¬ (mj x = 76 ∧ mOf x + j = 8 + k) by omega), if_neg c15]
    by_cases c14 : x = 14 ∧ j = k
    · rw [if_pos (show mj x = 75 ∧ mOf x + j = 8 + k by omega), if_pos c14, e14]
    rw [if_neg (show ¬ (mj x = 75 ∧ mOf x + j = 8 + k) by omega), if_neg c14]
    by_cases c13 : x = 13 ∧ j = k
    · rw [if_pos (show mj x = 74 ∧ mOf x + j = 8 + k by omega), if_pos c13, e13]
    rw [if_neg (show ¬ (mj x = 74 ∧ mOf x + j = 8 + k) by omega), if_neg c13]
    refine p5 x j x1 x2 ?_
    unfold pD at hj ⊢
    rw [g2, g3] at hj
    by_cases cx : x < 13
    · rw [if_pos cx] at hj ⊢
      exact hj
    · rw [if_neg cx] at hj ⊢
      omega
theorem m_readerC (hn : n ≤ 700) (hT : ∀ k, k < n → 0 ≤ T k ∧ T k ≤ 255) {B : aS} {s : Nat} {c : List Int} (hP : PM B S) (hs : s < n) (hc : c.length ≤ s) (h : OKm T n s c S) (d : Nat) : ∃ S', z_ew (d + 67) 136 [.ref 70] S = some (.inl none, S') ∧ RM T n (if B 3 0 = 8 then .inr (2, s) else rRd T n s c) S' ∧ frE S S' ∧ (∀ y, B 3 0 ≠ 8 → rRd T n s c = .inl y → PM (rdB T n B s (c.length : Int) (y.2.length : Int)) S') := by
  obtain ⟨k, hk⟩ : ∃ k : Nat, B 3 0 = (k : Int) := ⟨(B 3 0).toNat, by have := hP.2.1; omega⟩
  have hk8 : k ≤ 8 := by have := hP.2.1; omega
  have hR : RM T n (.inl (s, c)) S := ⟨by show s ≤ n; omega, hc, h⟩
  have h0 : S.1 70 5 = iI (k : Int) := by rw [hP.2.2.2.1, hk]
  rw [zx_136, h0, iI_n 8]
  by_cases h8 : k < 8
  · rw [if_neg (by rw [iI_eq (by omega) (by omega) (by omega) (by omega)]; omega), if_neg (show ¬ B 3 0 = 8 by omega), zq_136_14, if_pos (show S.1 70 24 = 0 from h.2.2.1)]
    have hx := nx_r (T := T) hs
    obtain ⟨S1, b1, b2, b3⟩ := m_nx hn (by omega) h (d + 64)
    have R1 : RM T n (.inl (nx T n s, c)) S1 := ⟨hx.2, by show c.length ≤ nx T n s; omega, b2⟩
    obtain ⟨x3, S2, e1, e2, e3, e4⟩ := m_tn hn (lo := 1) (hi := 60) (by omega) (by omega) (by omega) R1 (d + 63)
    have e2 : RM T n (pNm T n 1 60 (nx T n s) c) S2 := e2
    have R3 := e2.w (a0 := 74) (k := 8 + k) (v := x3) (by omega)
    have f3 : frM (z_w1 S.1 74 (8 + k) x3, S.2) (z_w1 S2.1 74 (8 + k) x3, S2.2) := (b3.tr e3).w
    have h15 : S1.1 70 5 = iI (k : Int) := (b3.2 70 5 (by omega) (by omega)).trans h0
    obtain ⟨x5, S4, i1, i2⟩ := m_opt hn (i := 4) (by omega) (lo := 0) (hh := 3) (by omega) (by omega) (by omega) R3 (d + 63)
    have start : z_R136 (d + 66) 999998 22 0 [some (.ref 70), none] [] S = (if x5 = 0 then (z_R136 (d + 66) 999997 71 0 [some (.ref 70), some (.int (iI ((8 + k : Nat) : Int)))] [.int (iI ((8 + k : Nat) : Int)), .ref 75] S4) else (z_cli (z_ew (d + 66) 127 [.ref 70, .int (iI 0), .int (iI 3)] S4) (fun x7 S6 => z_R136 (d + 66) 999997 72 0 [some (.ref 70), some (.int (iI ((8 + k : Nat) : Int)))] [.int x7, .int (iI ((8 + k : Nat) : Int)), .ref 75] S6) (z_hnd []))) := by
      rw [zq_136_22, b1, clv_v, show nI 1 = iI 1 from rfl, show nI 60 = iI 60 from rfl, e1, cli_i, h15, iI_n 8, iI_add, show ((8 : Nat) : Int) + (k : Int) = ((8 + k : Nat) : Int) by omega, ixN (show 8 + k < 16 by omega) (by decide), cond_true, tN (by omega), show (1204 : Nat) = 1200 + 4 from rfl, i1, cli_i]
      rfl
    rw [start]
    have fin : ∀ (t0 : Int32) (S5 : z_St), RM T n (pB (pNm T n 1 60 (nx T n s) c) (pOp T n 4 0 3)) S5 → frM (z_w1 S2.1 74 (8 + k) x3, S2.2) S5 → (∀ y z, pNm T n 1 60 (nx T n s) c = .inl y → pOp T n 4 0 3 y.1 y.2 = .inl z → t0 = iI (ovI T n 4 y.1)) → ∃ S', (∀ fu, z_R136 (d + 66) (fu + 4) 72 0 [some (.ref 70), some (.int (iI ((8 + k : Nat) : Int)))] [.int t0, .int (iI ((8 + k : Nat) : Int)), .ref 75] S5 = some (.inl none, S')) ∧ RM T n (rRd T n s c) S' ∧ frE S S' ∧ (∀ y, B 3 0 ≠ 8 → rRd T n s c = .inl y → PM (rdB T n B s (c.length : Int) (y.2.length : Int)) S') := by
      intro t0 S5 r5 g5 ht
      have h55 : S5.1 70 5 = iI (k : Int) := by
        rw [(f3.tr g5).2 70 5 (by omega) (by omega)]
        dsimp only
        rw [z_w1_r, if_neg (by omega), h0]
      obtain ⟨S', w15, w16, w17, w18, j1, j2, j3, j4, j5, j6⟩ := m_72r hn hT r5 h8 h55 t0 d
      have fF : frM (z_w1 (z_w1 (z_w1 (z_w1 (z_w1 (z_w1 (z_w1 S.1 74 (8 + k) x3) 75 (8 + k) t0) 76 (8 + k) w15) 81 (8 + k) w16) 77 (8 + k) w17) 78 (8 + k) w18) 70 5 (iI ((k + 1 : Nat) : Int)), S.2) S' := (((((((f3.tr g5).w).w).w).w).w).w).tr j3
      refine ⟨S', j1, j2, ⟨fF.1, fun a i a1 a2 a3 a4 => ?_⟩, fun y _ hy => ?_⟩
      · rw [fF.2 a i (by omega) (by omega)]
        dsimp only
        rw [z_w1_r, if_neg (by omega), z_w1_r, if_neg (by omega), z_w1_r, if_neg (by omega), z_w1_r, if_neg (by omega), z_w1_r, if_neg (by omega), z_w1_r, if_neg (by omega), z_w1_r, if_neg (by omega)]
      · unfold rRd rR3 at hy
        obtain ⟨s5, c5, y5, -⟩ := pB_inl (s' := y.1) (c' := y.2) hy
        obtain ⟨s4, c4, y4, -⟩ := pB_inl y5
        obtain ⟨s3, c3, y3, y3'⟩ := pB_inl y4
        obtain ⟨s2, c2, y2, y2'⟩ := pB_inl y3
        obtain ⟨z1, z1', -, -, z1''⟩ := pNm_i y2
        obtain ⟨z2, z2', -, -, z2''⟩ := pOp_i (by omega) z1'' y2'
        obtain ⟨z3, z3', -, -, -⟩ := pOp_i (by omega) z2'' y3'
        have hc4 : c4 = c := by rw [z3', z2', z1']
        have h1 : s2 = rd1 T n s := z1
        have h2 : s3 = rd2 T n s := by rw [z2, h1]; rfl
        have h3 : s4 = rd3 T n s := by rw [z3, h2]; rfl
        obtain ⟨m1, m2⟩ := j5 _ y4
        refine PM.rd (T := T) (n := n) (s := s) hP hk h8 (e4 _ rfl _ y2) (by rw [ht _ _ y2 y2', ← h1]) (by rw [j4 _ _ y3 y3', ← h2]) ?_ ?_ (j6 y hy) fF
        · rw [m1, ← h3]
        · rw [m2, ← hc4]
    rcases i2 with ⟨x0, i2, i3, i4⟩ | ⟨x0, x7, S6, i5, i2, i3, i4⟩
    · obtain ⟨S', j1, j2, j3, j4⟩ := fin (nI 0) S4 i2 i3 (fun y z hy _ => by rw [i4 y hy]; rfl)
      rw [if_pos x0, zq_136_71]
      exact ⟨S', j1 999992, j2, j3, j4⟩
    · obtain ⟨S', j1, j2, j3, j4⟩ := fin x7 S6 i2 i3 (fun y z hy hz => i4 y hy z hz)
      rw [if_neg x0, i5, cli_i]
      exact ⟨S', j1 999993, j2, j3, j4⟩
  · obtain ⟨S1, b1, b2, b3⟩ := mp_wr (k := 2) (by omega) (show s ≤ n by omega) h (d + 65)
    rw [if_pos (by rw [show k = 8 by omega]), if_pos (show B 3 0 = 8 by omega), show nI 2 = iI 2 from rfl, b1, clv_v, zq_136_14, if_neg b2.ne]
    exact ⟨S1, rfl, b2, b3.E, fun y hy => by omega⟩
end MR
