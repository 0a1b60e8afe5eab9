/-! the class's clause of a reader -/
section CR
variable {S : z_St} {T : Nat → Int} {n q : Nat}
theorem c_171 (hq : q = 2 ∨ q = 12) (hn : n ≤ 700) {r : pR} (h : RC T n q r S) {k : Nat} (hk : k < 8) (D : Nat) : ∃ S', (∀ fu, z_R26 (D + 4) (fu + 1) 171 0 [some (.ref 22), some (.int (iI (k : Int)))] [] S = some (.inl none, S')) ∧ RC T n q (pB r (pSg T n 59)) S' ∧ frC q (z_w1 S.1 (q + 8) k (S.1 q 11), S.2) S' := by
  obtain ⟨a1, a2, a3⟩ := q_at hq
  obtain ⟨u1, u2⟩ := q_i hq
  have hO3 := (z_at_q hq).1
  obtain ⟨S', b1, b2, b3⟩ := c_sg hq hn (sg := 59) (by omega) (by omega) (h.w (j := 8) (k := k) (v := S.1 q 11) hq (by omega) (by omega)) D
  refine ⟨S', fun fu => ?_, b2, b3⟩
  rw [zq_26_171, rc_q h, u1, cond_false, u2, hO3, cond_true, cond_false, cond_true, a1 8 (by omega) (by omega), a3 8 (by omega) (by omega), ixN hk (by decide), show (Nat.beq 1 1 && true) = true from rfl, cond_true, tN (by omega), show nI 59 = iI 59 from rfl, b1, clv_v]
theorem c_138 (hq : q = 2 ∨ q = 12) (hn : n ≤ 700) (hT : ∀ k, k < n → 0 ≤ T k ∧ T k ≤ 255) {r : pR} (h : RC T n q r S) {k : Nat} (hk : k < 8) (t0 : Int32) (d : Nat) : ∃ S' v, (∀ fu, z_R26 (d + 96) (fu + 2) 138 0 [some (.ref 22), some (.int (iI (k : Int)))] [.int t0, .int (iI (k : Int)), .ref (q + 6)] S = some (.inl none, S')) ∧ RC T n q (pB (pB r (pLw T n)) (pSg T n 59)) S' ∧ frC q (z_w1 (z_w1 (z_w1 S.1 (q + 6) k t0) (q + 7) k (S.1 q 11)) (q + 8) k v, S.2) S' ∧ (∀ y, pB r (pLw T n) = .inl y → v = iI (y.2.length : Int)) := by
  obtain ⟨a1, a2, a3⟩ := q_at hq
  obtain ⟨u1, u2⟩ := q_i hq
  have hO3 := (z_at_q hq).1
  have R1 := h.w (j := 6) (k := k) (v := t0) hq (by omega) (by omega)
  have R2 := R1.w (j := 7) (k := k) (v := S.1 q 11) hq (by omega) (by omega)
  have z1 := rc_q R1
  have z2 := rc_q R2
  dsimp only at z1 z2 R2
  have z11 : z_w1 S.1 (q + 6) k t0 q 11 = S.1 q 11 := by rw [z_w1_r, if_neg (by omega)]
  obtain ⟨b, S1, b1, b2, b3, b4, b5⟩ := c_pwR hq hn (i := 7) (by omega) R2 (d + 92)
  have st : ∀ fu, z_R26 (d + 96) (fu + 2) 138 0 [some (.ref 22), some (.int (iI (k : Int)))] [.int t0, .int (iI (k : Int)), .ref (q + 6)] S = (if bI b = 0 then (z_R26 (d + 96) (fu + 1) 171 0 [some (.ref 22), some (.int (iI (k : Int)))] [] S1) else (z_clv (z_ew (d + 96) 30 [.ref 22, .int (nI 0), .int (nI 0)] S1) (fun S3 => z_R26 (d + 96) (fu + 1) 171 0 [some (.ref 22), some (.int (iI (k : Int)))] [] S3) (z_hnd []))) := by
    intro fu
    rw [zq_26_138, a1 6 (by omega) (by omega), a3 6 (by omega) (by omega), ixN hk (by decide), show (Nat.beq 1 1 && true) = true from rfl, cond_true, tN (by omega), z1, u1, cond_false, u2, hO3, cond_true, cond_false, cond_true, a1 7 (by omega) (by omega), a3 7 (by omega) (by omega), ixN hk (by decide), show (Nat.beq 1 1 && true) = true from rfl, cond_true, z11, show (1007 : Nat) = 1000 + 7 from rfl, b1, cli_i]
  have fin : ∀ S2, RC T n q (pB r (pLw T n)) S2 → frC q (z_w1 (z_w1 S.1 (q + 6) k t0) (q + 7) k (S.1 q 11), S.2) S2 → ∃ S' v, (∀ fu, z_R26 (d + 96) (fu + 1) 171 0 [some (.ref 22), some (.int (iI (k : Int)))] [] S2 = some (.inl none, S')) ∧ RC T n q (pB (pB r (pLw T n)) (pSg T n 59)) S' ∧ frC q (z_w1 (z_w1 (z_w1 S.1 (q + 6) k t0) (q + 7) k (S.1 q 11)) (q + 8) k v, S.2) S' ∧ (∀ y, pB r (pLw T n) = .inl y → v = iI (y.2.length : Int)) := by
    intro S2 r2 g2
    obtain ⟨S', e1, e2, e3⟩ := c_171 hq hn r2 hk (d + 92)
    refine ⟨S', S2.1 q 11, e1, e2, (g2.w).tr e3, fun y hy => ?_⟩
    rw [hy] at r2
    exact r2.2.2.2.2.2.2.1
  have done : ∀ S2, RC T n q (pB r (pLw T n)) S2 → frC q (z_w1 (z_w1 S.1 (q + 6) k t0) (q + 7) k (S.1 q 11), S.2) S2 → (∀ fu, z_R26 (d + 96) (fu + 2) 138 0 [some (.ref 22), some (.int (iI (k : Int)))] [.int t0, .int (iI (k : Int)), .ref (q + 6)] S = z_R26 (d + 96) (fu + 1) 171 0 [some (.ref 22), some (.int (iI (k : Int)))] [] S2) → ∃ S' v, (∀ fu, z_R26 (d + 96) (fu + 2) 138 0 [some (.ref 22), some (.int (iI (k : Int)))] [.int t0, .int (iI (k : Int)), .ref (q + 6)] S = some (.inl none, S')) ∧ RC T n q (pB (pB r (pLw T n)) (pSg T n 59)) S' ∧ frC q (z_w1 (z_w1 (z_w1 S.1 (q + 6) k t0) (q + 7) k (S.1 q 11)) (q + 8) k v, S.2) S' ∧ (∀ y, pB r (pLw T n) = .inl y → v = iI (y.2.length : Int)) := by
    intro S2 r2 g2 hst
    obtain ⟨S', v, e1, e2, e3, e4⟩ := fin S2 r2 g2
    exact ⟨S', v, fun fu => (hst fu).trans (e1 fu), e2, e3, e4⟩
  cases r with
  | inl x =>
    obtain ⟨s, c⟩ := x
    have hb : b = decide (wd T n s = 7) := b4 _ rfl
    have b2 : RC T n q (pW T n 7 s c) S1 := b2
    unfold pW at b2
    by_cases e : wd T n s = 7
    · rw [if_pos e] at b2
      obtain ⟨S3, e1, e2, e3⟩ := c_lev hq hn hT 30 0 0 d (by omega) (by omega) (by omega) _ S1 b2
      have hp : pB (Sum.inl (s, c)) (pLw T n) = pL T n 30 0 0 (nx T n s) c := by
        show pLw T n s c = _
        unfold pLw
        rw [if_pos e]
      refine done S3 (by rw [hp]; exact e2) (b3.tr e3) (fun fu => ?_)
      rw [st fu, hb, decide_eq_true e, if_neg (show ¬ bI true = 0 by decide +kernel), iI_n 0, e1, clv_v]
    · rw [if_neg e] at b2
      have hp : pB (Sum.inl (s, c)) (pLw T n) = .inl (s, c) := by
        show pLw T n s c = _
        unfold pLw
        rw [if_neg e]
      refine done S1 (by rw [hp]; exact b2) b3 (fun fu => ?_)
      rw [st fu, hb, decide_eq_false e, if_pos (show bI false = 0 by rfl)]
  | inr e =>
    refine done S1 b2 b3 (fun fu => ?_)
    rw [st fu, b5 ⟨e, rfl⟩, if_pos (show bI false = 0 by rfl)]
theorem c_114 (hq : q = 2 ∨ q = 12) (hn : n ≤ 700) (hT : ∀ k, k < n → 0 ≤ T k ∧ T k ≤ 255) {r : pR} (h : RC T n q r S) {k : Nat} (hk : k < 8) (t0 : Int32) (d : Nat) : ∃ S' v16 v17 v18, (∀ fu, z_R26 (d + 96) (fu + 4) 114 0 [some (.ref 22), some (.int (iI (k : Int)))] [.int t0, .int (iI (k : Int)), .ref (q + 5)] S = some (.inl none, S')) ∧ RC T n q (pB (pB (pB r (pW T n 6)) (pLw T n)) (pSg T n 59)) S' ∧ frC q (z_w1 (z_w1 (z_w1 (z_w1 S.1 (q + 5) k t0) (q + 6) k v16) (q + 7) k v17) (q + 8) k v18, S.2) S' ∧ (∀ y, r = .inl y → v16 = bI (decide (wd T n y.1 = 6)) ∧ v17 = iI (y.2.length : Int)) ∧ (∀ y, pB (pB r (pW T n 6)) (pLw T n) = .inl y → v18 = iI (y.2.length : Int)) := by
  obtain ⟨a1, a2, a3⟩ := q_at hq
  obtain ⟨u1, u2⟩ := q_i hq
  have hO3 := (z_at_q hq).1
  have R1 := h.w (j := 5) (k := k) (v := t0) hq (by omega) (by omega)
  have z1 := rc_q R1
  dsimp only at z1
  obtain ⟨b, S1, b1, b2, b3, b4, b5⟩ := c_pwR hq hn (i := 6) (by omega) R1 (d + 92)
  have st : ∀ fu, ∃ g, z_R26 (d + 96) (fu + 4) 114 0 [some (.ref 22), some (.int (iI (k : Int)))] [.int t0, .int (iI (k : Int)), .ref (q + 5)] S = z_R26 (d + 96) (g + 2) 138 0 [some (.ref 22), some (.int (iI (k : Int)))] [.int (bI b), .int (iI (k : Int)), .ref (q + 6)] S1 := by
    intro fu
    have s1 : z_R26 (d + 96) (fu + 4) 114 0 [some (.ref 22), some (.int (iI (k : Int)))] [.int t0, .int (iI (k : Int)), .ref (q + 5)] S = (if bI b = 0 then (z_R26 (d + 96) (fu + 3) 137 0 [some (.ref 22), some (.int (iI (k : Int)))] [.int (iI (k : Int)), .ref (q + 6)] S1) else (z_R26 (d + 96) (fu + 3) 138 0 [some (.ref 22), some (.int (iI (k : Int)))] [.int (nI 1), .int (iI (k : Int)), .ref (q + 6)] S1)) := by
      rw [zq_26_114, a1 5 (by omega) (by omega), a3 5 (by omega) (by omega), ixN hk (by decide), show (Nat.beq 1 1 && true) = true from rfl, cond_true, tN (by omega), z1, u1, cond_false, u2, hO3, cond_true, show (1006 : Nat) = 1000 + 6 from rfl, b1, cli_i]
    cases b with
    | true =>
      refine ⟨fu + 1, ?_⟩
      rw [s1, if_neg (show ¬ bI true = 0 by decide +kernel)]
      rfl
    | false =>
      refine ⟨fu, ?_⟩
      rw [s1, if_pos (show bI false = 0 by rfl), zq_26_137]
      rfl
  obtain ⟨S', v, e1, e2, e3, e4⟩ := c_138 hq hn hT b2 hk (bI b) d
  refine ⟨S', bI b, S1.1 q 11, v, fun fu => ?_, e2, (((b3.w).w).w).tr e3, fun y hy => ?_, e4⟩
  · obtain ⟨g, hg⟩ := st fu
    rw [hg, e1 g]
  · rw [b4 y hy]
    refine ⟨rfl, ?_⟩
    rw [hy] at b2
    have b2 : RC T n q (pW T n 6 y.1 y.2) S1 := b2
    unfold pW at b2
    exact b2.2.2.2.2.2.2.1
theorem c_84 (hq : q = 2 ∨ q = 12) (hn : n ≤ 700) (hT : ∀ k, k < n → 0 ≤ T k ∧ T k ≤ 255) {r : pR} (h : RC T n q r S) {k : Nat} (hk : k < 8) (t0 : Int32) (d : Nat) : ∃ S' v15 v16 v17 v18, (∀ fu, z_R26 (d + 96) (fu + 6) 84 0 [some (.ref 22), some (.int (iI (k : Int)))] [.int t0, .int (iI (k : Int)), .ref (q + 4)] S = some (.inl none, S')) ∧ RC T n q (pB (pB (pB (pB r (pOp T n 5 0 20)) (pW T n 6)) (pLw T n)) (pSg T n 59)) S' ∧ frC q (z_w1 (z_w1 (z_w1 (z_w1 (z_w1 S.1 (q + 4) k t0) (q + 5) k v15) (q + 6) k v16) (q + 7) k v17) (q + 8) k v18, S.2) S' ∧ (∀ y, r = .inl y → v15 = iI (ovI T n 5 y.1)) ∧ (∀ y, pB r (pOp T n 5 0 20) = .inl y → v16 = bI (decide (wd T n y.1 = 6)) ∧ v17 = iI (y.2.length : Int)) ∧ (∀ y, pB (pB (pB r (pOp T n 5 0 20)) (pW T n 6)) (pLw T n) = .inl y → v18 = iI (y.2.length : Int)) := by
  obtain ⟨a1, a2, a3⟩ := q_at hq
  obtain ⟨u1, u2⟩ := q_i hq
  have hO3 := (z_at_q hq).1
  have R1 := h.w (j := 4) (k := k) (v := t0) hq (by omega) (by omega)
  have z1 := rc_q R1
  dsimp only at z1
  obtain ⟨x5, S4, i1, i2⟩ := c_opt hq hn (i := 5) (by omega) (lo := 0) (hh := 20) (by omega) (by omega) (by omega) R1 (d + 92)
  have st : ∀ fu, z_R26 (d + 96) (fu + 6) 84 0 [some (.ref 22), some (.int (iI (k : Int)))] [.int t0, .int (iI (k : Int)), .ref (q + 4)] S = (if x5 = 0 then (z_R26 (d + 96) (fu + 5) 113 0 [some (.ref 22), some (.int (iI (k : Int)))] [.int (iI (k : Int)), .ref (q + 5)] S4) else (z_cli (z_ew (d + 96) 29 [.ref 22, .int (iI 0), .int (iI 20)] S4) (fun x4 S3 => z_R26 (d + 96) (fu + 5) 114 0 [some (.ref 22), some (.int (iI (k : Int)))] [.int x4, .int (iI (k : Int)), .ref (q + 5)] S3) (z_hnd []))) := by
    intro fu
    rw [zq_26_84, a1 4 (by omega) (by omega), a3 4 (by omega) (by omega), ixN hk (by decide), show (Nat.beq 1 1 && true) = true from rfl, cond_true, tN (by omega), z1, u1, cond_false, u2, hO3, cond_true, show (1005 : Nat) = 1000 + 5 from rfl, i1, cli_i]
    rfl
  rcases i2 with ⟨x0, i2, i3, i4⟩ | ⟨x0, x7, S6, i5, i2, i3, i4⟩
  · obtain ⟨S', v16, v17, v18, e1, e2, e3, e4, e5⟩ := c_114 hq hn hT i2 hk (nI 0) d
    refine ⟨S', nI 0, v16, v17, v18, fun fu => ?_, e2, ((((i3.w).w).w).w).tr e3, fun y hy => by rw [i4 y hy]; rfl, e4, e5⟩
    rw [st fu, if_pos x0, zq_26_113, e1 fu]
  · obtain ⟨S', v16, v17, v18, e1, e2, e3, e4, e5⟩ := c_114 hq hn hT i2 hk x7 d
    refine ⟨S', x7, v16, v17, v18, fun fu => ?_, e2, ((((i3.w).w).w).w).tr e3, i4, e4, e5⟩
    rw [st fu, if_neg x0, i5, cli_i, e1 (fu + 1)]
theorem PC.rd {k : Nat} {B : aS} {S' : z_St} {s : Nat} {l l' : Int} (h : PC q B S) (hk : B 3 0 = (k : Int)) (h8 : k < 8) {v13 v14 v15 v16 v17 v18 : Int32} (e13 : v13 = iI (nb T n (nx T n s))) (e14 : v14 = iI (ovI T n 4 (rd1 T n s))) (e15 : v15 = iI (ovI T n 5 (rd2 T n s))) (e16 : v16 = bI (decide (wd T n (rd3 T n s) = 6))) (e17 : v17 = iI l) (e18 : v18 = iI l') (hq : q = 2 ∨ q = 12) (hf : frC q (z_w1 (z_w1 (z_w1 (z_w1 (z_w1 (z_w1 (z_w1 S.1 q 3 (iI ((k + 1 : Nat) : Int))) (q + 3) k v13) (q + 4) k v14) (q + 5) k v15) (q + 6) k v16) (q + 7) k v17) (q + 8) k v18, S.2) S') : PC q (rdB T n B s l l') S' := by
  obtain ⟨p1, p2, p3, p4, p5⟩ := h
  have hkn : (B 3 0).toNat = k := by omega
  have g2 : rdB T n B s l l' 2 0 = B 2 0 := by
    unfold rdB
    rw [aU_r, if_neg (by omega), aU_r, if_neg (by omega), aU_r, if_neg (by omega), aU_r, if_neg (by omega), aU_r, if_neg (by omega), aU_r, if_neg (by omega), aU_r, if_neg (by omega)]
  have g3 : rdB T n B s l l' 3 0 = (k : Int) + 1 := by
    unfold rdB
    rw [aU_r, if_pos ⟨rfl, rfl⟩, hk]
  have fr := hf.2
  refine ⟨by rw [g2]; exact p1, by rw [g3]; omega, ?_, ?_, ?_⟩
  · rw [fr q 0 (by omega) (by omega) (by omega) (by omega), g2]
    dsimp only
    rw [z_w1_r, if_neg (by omega), z_w1_r, if_neg (by omega), z_w1_r, if_neg (by omega), z_w1_r, if_neg (by omega), z_w1_r, if_neg (by omega), z_w1_r, if_neg (by omega), z_w1_r, if_neg (by omega), p3]
  · rw [fr q 3 (by omega) (by omega) (by omega) (by omega), g3]
    dsimp only
    rw [z_w1_r, if_neg (by omega), z_w1_r, if_neg (by omega), z_w1_r, if_neg (by omega), z_w1_r, if_neg (by omega), z_w1_r, if_neg (by omega), z_w1_r, if_neg (by omega), z_w1_r, if_pos ⟨rfl, rfl⟩]
    rfl
  · intro x j x1 x2 hj
    rw [fr (q + (x - 10)) j (by omega) (by omega) (by omega) (by omega)]
    dsimp only
    unfold rdB
    rw [hkn, aU_r, if_neg (by omega), aU_r, aU_r, aU_r, aU_r, aU_r, aU_r, z_w1_r, z_w1_r, z_w1_r, z_w1_r, z_w1_r, z_w1_r, z_w1_r, if_neg (show ¬ (q + (x - 10) = q ∧ j = 3) by omega)]
    by_cases c18 : x = 18 ∧ j = k
    · rw [if_pos (by omega), if_pos c18, e18]
    rw [if_neg (show ¬ (q + (x - 10) = q + 8 ∧ j = k) by omega), if_neg c18]
    by_cases c17 : x = 17 ∧ j = k
    · rw [if_pos (by omega), if_pos c17, e17]
    rw [if_neg (show ¬ (q + (x - 10) = q + 7 ∧ j = k) by omega), if_neg c17]
    by_cases c16 : x = 16 ∧ j = k
    · rw [if_pos (show q + (x - 10) = q + 6 ∧ j = k by omega), if_pos c16, e16]
      by_cases w6 : wd T n (rd3 T n s) = 6
      · rw [decide_eq_true w6, if_pos w6]
        rfl
      · rw [decide_eq_false w6, if_neg w6]
        rfl
    rw [if_neg (show ¬ (q + (x - 10) = q + 6 ∧ j = k) by omega), if_neg c16]
    by_cases c15 : x = 15 ∧ j = k
    · rw [if_pos (by omega), if_pos c15, e15]
    rw [if_neg (show ¬ (q + (x - 10) = q + 5 ∧ j = k) by omega), if_neg c15]
    by_cases c14 : x = 14 ∧ j = k
    · rw [if_pos (by omega), if_pos c14, e14]
    rw [if_neg (show ¬ (q + (x - 10) = q + 4 ∧ j = k) by omega), if_neg c14]
    by_cases c13 : x = 13 ∧ j = k
    · rw [if_pos (by omega), if_pos c13, e13]
    rw [if_neg (show ¬ (q + (x - 10) = q + 3 ∧ j = k) by omega), if_neg c13]
    refine p5 x j x1 x2 ?_
    unfold pD at hj ⊢
    rw [g2, g3] at hj
    by_cases cx : x < 13
    · rw [if_pos cx] at hj ⊢
      exact hj
    · rw [if_neg cx] at hj ⊢
      omega
theorem c_reader0 (hq : q = 2 ∨ q = 12) (hn : n ≤ 700) (hT : ∀ k, k < n → 0 ≤ T k ∧ T k ≤ 255) {B : aS} {s : Nat} {c : List Int} (hP : PC q B S) (hs : s < n) (hc : c.length ≤ s) (h : OKc T n q s c S) (d : Nat) : ∃ S', z_ew (d + 97) 26 [.ref 22] S = some (.inl none, S') ∧ RC T n q (if B 3 0 = 8 then .inr (2, s) else pB (rRd T n s c) (pSg T n 59)) S' ∧ frD q S S' ∧ (∀ y, B 3 0 ≠ 8 → rRd T n s c = .inl y → PC q (rdB T n B s (c.length : Int) (y.2.length : Int)) S') := by
  obtain ⟨k, hk⟩ : ∃ k : Nat, B 3 0 = (k : Int) := ⟨(B 3 0).toNat, by have := hP.2.1; omega⟩
  have hk8 : k ≤ 8 := by have := hP.2.1; omega
  obtain ⟨u1, u2⟩ := q_i hq
  obtain ⟨v1, v2, v3⟩ := q_at hq
  have hO3 := (z_at_q hq).1
  have hR : RC T n q (.inl (s, c)) S := ⟨by show s ≤ n; omega, hc, h⟩
  have h0 : S.1 q 3 = iI (k : Int) := by rw [hP.2.2.2.1, hk]
  rw [zx_26, rc_q hR, u1, cond_false, u2, hO3, cond_true, h0, iI_n 8]
  by_cases h8 : k < 8
  · rw [if_pos (by rw [iI_lt (by omega) (by omega) (by omega) (by omega)]; omega), if_neg (show ¬ B 3 0 = 8 by omega)]
    obtain ⟨S0, hS0⟩ : ∃ S0 : z_St, S0 = (z_w1 S.1 q 3 (iI ((k + 1 : Nat) : Int)), S.2) := ⟨_, rfl⟩
    have R0 : RC T n q (.inl (s, c)) S0 := hR.f (fun a i ha => by
      rw [hS0]
      dsimp only
      rw [z_w1_r, if_neg (by omega)])
    have hx := nx_r (T := T) hs
    obtain ⟨S1, b1, b2, b3⟩ := c_nx hq hn (by omega) R0.2.2 (d + 93)
    have R1 : RC T n q (.inl (nx T n s, c)) S1 := ⟨hx.2, by show c.length ≤ nx T n s; omega, b2⟩
    obtain ⟨x3, S2, e1, e2, e3, e4⟩ := c_tn hq hn (lo := 1) (hi := 60) (by omega) (by omega) (by omega) R1 (d + 92)
    have ex : x3 = iI (nb T n (nx T n s)) := e4 _ rfl
    have e2 : RC T n q (pNm T n 1 60 (nx T n s) c) S2 := e2
    have R3 := e2.w (j := 3) (k := k) (v := x3) hq (by omega) (by omega)
    have f3 : frC q (z_w1 (z_w1 S.1 q 3 (iI ((k + 1 : Nat) : Int))) (q + 3) k x3, S.2) (z_w1 S2.1 (q + 3) k x3, S2.2) := by
      have := (b3.tr e3).w (a0 := q + 3) (k := k) (v := x3)
      rw [hS0] at this
      exact this
    have hz := rc_q R3
    dsimp only at hz
    obtain ⟨x5, S4, i1, i2⟩ := c_opt hq hn (i := 4) (by omega) (lo := 0) (hh := 3) (by omega) (by omega) (by omega) R3 (d + 92)
    have start : z_R26 (d + 96) 999999 20 0 [some (.ref 22), some (.int (iI (k : Int)))] [] S = (if x5 = 0 then (z_R26 (d + 96) 999998 83 0 [some (.ref 22), some (.int (iI (k : Int)))] [.int (iI (k : Int)), .ref (q + 4)] S4) else (z_cli (z_ew (d + 96) 29 [.ref 22, .int (iI 0), .int (iI 3)] S4) (fun x7 S6 => z_R26 (d + 96) 999998 84 0 [some (.ref 22), some (.int (iI (k : Int)))] [.int x7, .int (iI (k : Int)), .ref (q + 4)] S6) (z_hnd []))) := by
      rw [zq_26_20, rc_q hR, u1, cond_false, u2, hO3, cond_true, show (true && Nat.beq 0 0 && z_nb 0 (S.1 q 3 + nI 1)) = true from rfl, cond_true, h0, iI_n 1, iI_add, show (k : Int) + ((1 : Nat) : Int) = ((k + 1 : Nat) : Int) by omega, ← hS0, b1, clv_v, rc_q R1, u1, cond_false, u2, hO3, cond_true, show iI ((1 : Nat) : Int) = iI 1 from rfl, show nI 60 = iI 60 from rfl, e1, cli_i, v1 3 (by omega) (by omega), v3 3 (by omega) (by omega), ixN h8 (by decide), show (Nat.beq 1 1 && true) = true from rfl, cond_true, tN (by omega), hz, u1, cond_false, u2, hO3, cond_true, show (1004 : Nat) = 1000 + 4 from rfl, i1, cli_i]
      rfl
    rw [start]
    have fin : ∀ (t0 : Int32) (S5 : z_St), RC T n q (pB (pNm T n 1 60 (nx T n s) c) (pOp T n 4 0 3)) S5 → frC q (z_w1 S2.1 (q + 3) k x3, S2.2) S5 → (∀ y, pNm T n 1 60 (nx T n s) c = .inl y → t0 = iI (ovI T n 4 y.1)) → ∃ S', (∀ fu, z_R26 (d + 96) (fu + 6) 84 0 [some (.ref 22), some (.int (iI (k : Int)))] [.int t0, .int (iI (k : Int)), .ref (q + 4)] S5 = some (.inl none, S')) ∧ RC T n q (pB (rRd T n s c) (pSg T n 59)) S' ∧ frD q S S' ∧ (∀ y, B 3 0 ≠ 8 → rRd T n s c = .inl y → PC q (rdB T n B s (c.length : Int) (y.2.length : Int)) S') := by
      intro t0 S5 r5 g5 ht
      obtain ⟨S', w15, w16, w17, w18, j1, j2, j3, j4, j5, j6⟩ := c_84 hq hn hT r5 h8 t0 d
      have fF : frC q (z_w1 (z_w1 (z_w1 (z_w1 (z_w1 (z_w1 (z_w1 S.1 q 3 (iI ((k + 1 : Nat) : Int))) (q + 3) k x3) (q + 4) k t0) (q + 5) k w15) (q + 6) k w16) (q + 7) k w17) (q + 8) k w18, S.2) S' := ((((((f3.tr g5).w).w).w).w).w).tr j3
      refine ⟨S', j1, j2, ⟨fF.1, fun a i a1 a2 a3 => ?_⟩, fun y _ hy => ?_⟩
      · rw [fF.2 a i a1 a2 (by omega) (by omega)]
        dsimp only
        rw [z_w1_r, if_neg (by omega), z_w1_r, if_neg (by omega), z_w1_r, if_neg (by omega), z_w1_r, if_neg (by omega), z_w1_r, if_neg (by omega), z_w1_r, if_neg (by omega), z_w1_r, if_neg (by omega)]
      · have hy0 := hy
        unfold rRd rR3 at hy
        obtain ⟨s5, c5, y5, -⟩ := pB_inl (s' := y.1) (c' := y.2) hy
        obtain ⟨s4, c4, y4, -⟩ := pB_inl y5
        obtain ⟨s3, c3, y3, y3'⟩ := pB_inl y4
        obtain ⟨s2, c2, y2, y2'⟩ := pB_inl y3
        obtain ⟨z1, z1', -, -, z1''⟩ := pNm_i y2
        obtain ⟨z2, z2', -, -, z2''⟩ := pOp_i (by omega) z1'' y2'
        obtain ⟨z3, z3', -, -, -⟩ := pOp_i (by omega) z2'' y3'
        have hc4 : c4 = c := by rw [z3', z2', z1']
        have h1 : s2 = rd1 T n s := z1
        have h2 : s3 = rd2 T n s := by rw [z2, h1]; rfl
        have h3 : s4 = rd3 T n s := by rw [z3, h2]; rfl
        obtain ⟨m1, m2⟩ := j5 _ y4
        refine PC.rd (T := T) (n := n) (s := s) hP hk h8 ex (by rw [ht _ y2, ← h1]) (by rw [j4 _ y3, ← h2]) ?_ ?_ (j6 y hy) hq fF
        · rw [m1, ← h3]
        · rw [m2, ← hc4]
    rcases i2 with ⟨x0, i2, i3, i4⟩ | ⟨x0, x7, S6, i5, i2, i3, i4⟩
    · obtain ⟨S', j1, j2, j3, j4⟩ := fin (nI 0) S4 i2 i3 (fun y hy => by rw [i4 y hy]; rfl)
      rw [if_pos x0, zq_26_83]
      exact ⟨S', j1 999991, j2, j3, j4⟩
    · obtain ⟨S', j1, j2, j3, j4⟩ := fin x7 S6 i2 i3 i4
      rw [if_neg x0, i5, cli_i]
      exact ⟨S', j1 999992, j2, j3, j4⟩
  · obtain ⟨S1, b1, b2, b3⟩ := c_bad hq hn (k := 2) (by omega) hR (d + 94)
    rw [if_neg (by rw [iI_lt (by omega) (by omega) (by omega) (by omega)]; omega), if_pos (show B 3 0 = 8 by omega), show nI 2 = iI 2 from rfl, b1, clv_v]
    exact ⟨S1, rfl, b2, b3.D, fun y hy => by omega⟩
end CR
