/-! the table of what fits; gather as a whole -/
section FT2
variable {p : Nat} {A : aS} {S : z_St}
def bI (x : Bool) : Int32 := iI (if x = true then 1 else 0)
theorem nar_b (x : Bool) : vp_nar .boolean (bI x) = bI x := by
  cases x
  · exact nb0
  · exact nb1
def fT (A : aS) (b N : Nat) (rev : List Nat) (r m : Nat) : Bool := ft (cK A b N) r none (sel rev.reverse m)
def F62 (A : aS) (b N : Nat) (rev : List Nat) (S : z_St) (r k : Nat) : Prop := (∀ r' m, r' < r → m < 2 ^ rev.length → S.1 62 (r' * 64 + m) = bI (fT A b N rev r' m)) ∧ ∀ m, m < k → S.1 62 (r * 64 + m) = bI (fT A b N rev r m)
theorem c_all {b N : Nat} {rev : List Nat} (h : GG A p b N rev S) (hn : rev.length < 7) (d : Nat) : z_ew (d + 1) 47 [.ref 55] S = some (.inl (some (.int (iI ((2 ^ rev.length - 1 : Nat) : Int)))), S) := by
  rw [zx_47, h.2.1.2.1, (all_t _ hn).1]
theorem c_ff {b N r : Nat} {rev : List Nat} (hw : wf A) (ho : oks A rev) (hN : A 4 0 = N) (hr : (r : Int) < A 3 0) (d z : Nat) : ∀ (k m n : Nat) (S : z_St) (x4 x5 : Option Value), m + k = 2 ^ rev.length → 4 * k + 2 ≤ n → 1 ≤ m → GG A p b N rev S → F62 A b N rev S r m → ∃ S', z_R50 (d + 2) n 14 z [some (.ref 55), some (.int (iI (r : Int))), some (.int (iI ((r * 64 : Nat) : Int))), some (.int (iI (m : Int))), x4, x5] [] S = some (.inl none, S') ∧ F62 A b N rev S' r (2 ^ rev.length) ∧ (∀ a i, a ≠ 62 → S'.1 a i = S.1 a i) ∧ S'.2 = S.2 := by
  have hn7 := ho.1
  have hr2 := hw.r
  have hrr := hw.rr hr
  obtain ⟨-, al2, al3⟩ := all_t rev.length hn7
  intro k
  induction k with
  | zero =>
    intro m n S x4 x5 hm hn h1 hG hF
    obtain ⟨n, rfl⟩ : ∃ q, n = q + 2 := ⟨n - 2, by omega⟩
    refine ⟨S, ?_, ⟨hF.1, fun q hq => hF.2 q (by omega)⟩, fun _ _ _ => rfl, rfl⟩
    rw [zq_50_14, c_all hG hn7 (d + 1), cli_i, if_pos (by rw [iI_lt (by omega) (by omega) (by omega) (by omega)]; omega), zq_50_119]
  | succ k ih =>
    intro m n S x4 x5 hm hn h1 hG hF
    obtain ⟨n, rfl⟩ : ∃ q, n = q + 4 := ⟨n - 4, by omega⟩
    have e2 : (m : Int) + ((1 : Nat) : Int) = ((m + 1 : Nat) : Int) := by omega
    obtain ⟨t1, t2, t3, t4, t5⟩ := ls_t m (by omega) (by omega)
    have hL : lsP m 6 < rev.length := by
      by_cases q : lsP m 6 < rev.length
      · exact q
      · have : 2 ^ rev.length ≤ 2 ^ lsP m 6 := Nat.pow_le_pow_right (by decide) (by omega)
        omega
    have hrest : m ^^^ 2 ^ lsP m 6 < 64 := by omega
    have eb : iI ((r * 64 : Nat) : Int) + iI ((m ^^^ 2 ^ lsP m 6 : Nat) : Int) = iI ((r * 64 + (m ^^^ 2 ^ lsP m 6) : Nat) : Int) := by rw [iI_add]; congr 1
    have eb2 : iI ((r * 64 : Nat) : Int) + iI (m : Int) = iI ((r * 64 + m : Nat) : Int) := by rw [iI_add]; congr 1
    have hv := ft_l (cK A b N) r (row := rev.reverse) (by rw [List.length_reverse]; exact hn7) (m := m) (by rw [List.length_reverse]; omega) (by omega)
    have hv : fT A b N rev r m = (fT A b N rev r (m ^^^ 2 ^ lsP m 6) && cK A b N r (if m ^^^ 2 ^ lsP m 6 = 0 then none else some (rev.reverse.getD (lsP (m ^^^ 2 ^ lsP m 6) 6) 0)) (rev.reverse.getD (lsP m 6) 0)) := hv
    have hgL := ho.g hL
    obtain ⟨hC, hGr, hQ⟩ := id hG
    obtain ⟨g1, g2⟩ := hGr.p1 hC
    have sto : ∀ (v : Bool) (q : Nat) (x4 x5 : Option Value) (n : Nat), v = fT A b N rev r m → 4 * k + 2 ≤ n → ∃ S', z_R50 (d + 2) (n + 1) 112 z [some (.ref 55), some (.int (iI (r : Int))), some (.int (iI ((r * 64 : Nat) : Int))), some (.int (iI (m : Int))), x4, x5] [.int (bI v), .int (iI ((r * 64 + m : Nat) : Int)), .ref 62] S = some (.inl none, S') ∧ F62 A b N rev S' r (2 ^ rev.length) ∧ (∀ a i, a ≠ 62 → S'.1 a i = S.1 a i) ∧ S'.2 = S.2 := by
      intro v q x4 x5 n hv2 hn2
      rw [zq_50_112, ixN (by omega) (by decide), cond_true, tN (by omega), nar_b, iI_n 1, iI_add, e2]
      obtain ⟨S', a1, a2, a3, a4⟩ := ih (m + 1) n (z_w1 S.1 62 (r * 64 + m) (bI v), S.2) none none (by omega) hn2 (by omega) (hG.f (fun a i ha => by dsimp only; rw [z_w1_r, if_neg (by omega)]) rfl) ⟨fun r' m' hr' hm' => by
          dsimp only
          rw [z_w1_r, if_neg (by omega)]
          exact hF.1 r' m' hr' hm', fun m' hm' => by
          dsimp only
          rw [z_w1_r]
          by_cases e : m' = m
          · rw [if_pos (by omega), e, hv2]
          · rw [if_neg (by omega)]
            exact hF.2 m' (by omega)⟩
      refine ⟨S', a1, a2, fun a i ha => ?_, a4⟩
      rw [a3 a i ha]
      dsimp only
      rw [z_w1_r, if_neg (by omega)]
    have no : ∀ (n : Nat) (x4 x5 : Option Value), fT A b N rev r m = false → 4 * k + 2 ≤ n → ∃ S', z_R50 (d + 2) (n + 2) 111 z [some (.ref 55), some (.int (iI (r : Int))), some (.int (iI ((r * 64 : Nat) : Int))), some (.int (iI (m : Int))), x4, x5] [.int (iI ((r * 64 + m : Nat) : Int)), .ref 62] S = some (.inl none, S') ∧ F62 A b N rev S' r (2 ^ rev.length) ∧ (∀ a i, a ≠ 62 → S'.1 a i = S.1 a i) ∧ S'.2 = S.2 := by
      intro n x4 x5 hv2 hn2
      rw [zq_50_111]
      exact sto false 0 _ _ n hv2.symm hn2
    have yes : ∀ (n : Nat) (x4 x5 : Option Value), fT A b N rev r m = true → 4 * k + 2 ≤ n → ∃ S', z_R50 (d + 2) (n + 2) 107 z [some (.ref 55), some (.int (iI (r : Int))), some (.int (iI ((r * 64 : Nat) : Int))), some (.int (iI (m : Int))), x4, x5] [.int (iI ((r * 64 + m : Nat) : Int)), .ref 62] S = some (.inl none, S') ∧ F62 A b N rev S' r (2 ^ rev.length) ∧ (∀ a i, a ≠ 62 → S'.1 a i = S.1 a i) ∧ S'.2 = S.2 := by
      intro n x4 x5 hv2 hn2
      rw [zq_50_107]
      exact sto true 0 _ _ n hv2.symm hn2
    have f62 := hF.2 (m ^^^ 2 ^ lsP m 6) t2
    rw [zq_50_14, c_all hG hn7 (d + 1), cli_i, if_neg (by rw [iI_lt (by omega) (by omega) (by omega) (by omega)]; omega), c_lastE (by omega) (d + 1), cli_i, xor_t m (by omega) _ t1, eb, ixN (by omega) (by decide), cond_true, tN (by omega), f62, eb2]
    by_cases q1 : fT A b N rev r (m ^^^ 2 ^ lsP m 6) = true
    · rw [if_neg (by unfold bI; rw [b01]; exact fun e => e q1), ixN t1 (by decide), cond_true, g1, cond_false, g2, hC.p3, cond_true, hC.px (by decide) (by decide) hC.pl.2.2.2.1 (show r < 8 by omega) (by decide), cond_true, tN (by omega), tN (by omega), stk_get rev hGr.2.2.2.2.1 _ hL, c_14 hC hr]
      rw [q1, Bool.true_and] at hv
      unfold cK at hv
      by_cases q2 : A 34 (rev.reverse.getD (lsP m 6) 0) = A 14 r
      · rw [decide_eq_true q2, Bool.true_and] at hv
        rw [if_pos (by unfold f2; rw [q2]), iI_0]
        by_cases q3 : m ^^^ 2 ^ lsP m 6 = 0
        · rw [if_pos q3] at hv
          dsimp only at hv
          rw [if_pos (by rw [q3]; rfl), c_mbf hw hG ho hN hr hL (d + 1), cli_i]
          by_cases q4 : A 35 (rev.reverse.getD (lsP m 6) 0) - 1 ≤ A 13 r * lhP A b r (A 33 (rev.reverse.getD (lsP m 6) 0)) N
          · rw [if_neg (by rw [← iI_0, b01]; exact fun e => e q4)]
            exact yes (n + 1) _ _ (by rw [hv]; exact decide_eq_true q4) (by omega)
          · rw [if_pos (by rw [← iI_0, b01]; exact q4)]
            exact no (n + 1) _ _ (by rw [hv]; exact decide_eq_false q4) (by omega)
        · rw [if_neg q3] at hv
          dsimp only at hv
          obtain ⟨s1, s2, s3, s4, s5⟩ := ls_t _ hrest q3
          have hL2 : lsP (m ^^^ 2 ^ lsP m 6) 6 < rev.length := by
            by_cases q : lsP (m ^^^ 2 ^ lsP m 6) 6 < rev.length
            · exact q
            · have : 2 ^ rev.length ≤ 2 ^ lsP (m ^^^ 2 ^ lsP m 6) 6 := Nat.pow_le_pow_right (by decide) (by omega)
              omega
          rw [if_neg (by rw [iI_eq (by omega) (by omega) (by decide) (by decide)]; omega), zq_50_92, c_lastE hrest (d + 1), cli_i, c_mfl hw hG ho hN hr hL2 hL (d + 1), cli_i]
          by_cases q4 : A 33 (rev.reverse.getD (lsP (m ^^^ 2 ^ lsP m 6) 6) 0) < A 33 (rev.reverse.getD (lsP m 6) 0) ∧ A 35 (rev.reverse.getD (lsP (m ^^^ 2 ^ lsP m 6) 6) 0) - A 15 r * (bgP A b r (A 33 (rev.reverse.getD (lsP m 6) 0)) N - bgP A b r (A 33 (rev.reverse.getD (lsP (m ^^^ 2 ^ lsP m 6) 6) 0)) N) ≤ A 35 (rev.reverse.getD (lsP m 6) 0) ∧ A 35 (rev.reverse.getD (lsP m 6) 0) ≤ A 35 (rev.reverse.getD (lsP (m ^^^ 2 ^ lsP m 6) 6) 0) + A 13 r * (lhP A b r (A 33 (rev.reverse.getD (lsP m 6) 0)) N - lhP A b r (A 33 (rev.reverse.getD (lsP (m ^^^ 2 ^ lsP m 6) 6) 0)) N)
          · rw [if_neg (by rw [b01]; exact fun e => e q4)]
            exact yes n _ _ (by rw [hv]; exact decide_eq_true q4) (by omega)
          · rw [if_pos (by rw [b01]; exact q4)]
            exact no n _ _ (by rw [hv]; exact decide_eq_false q4) (by omega)
      · rw [decide_eq_false q2, Bool.false_and] at hv
        rw [if_neg (by unfold f2; rw [iI_eq (by omega) (by omega) (by omega) (by omega)]; exact q2)]
        exact no (n + 1) _ _ hv (by omega)
    · have q1' : fT A b N rev r (m ^^^ 2 ^ lsP m 6) = false := by simpa using q1
      rw [q1', Bool.false_and] at hv
      rw [if_pos (by unfold bI; rw [b01]; exact q1)]
      exact no (n + 1) _ _ hv (by omega)
theorem c_ffE {b N r : Nat} {rev : List Nat} (hw : wf A) (ho : oks A rev) (hN : A 4 0 = N) (hr : (r : Int) < A 3 0) (hG : GG A p b N rev S) (hF : F62 A b N rev S r 0) (d : Nat) : ∃ S', z_ew (d + 3) 50 [.ref 55, .int (iI (r : Int))] S = some (.inl none, S') ∧ F62 A b N rev S' (r + 1) 0 ∧ (∀ a i, a ≠ 62 → S'.1 a i = S.1 a i) ∧ S'.2 = S.2 := by
  have hr2 := hw.r
  have hn7 := ho.1
  obtain ⟨-, al2, al3⟩ := all_t rev.length hn7
  have e6 : iI (r : Int) * nI 64 = iI ((r * 64 : Nat) : Int) := by rw [iI_n, iI_mul]; congr 1
  have nb : vp_nar .boolean (nI 1) = bI true := nb1
  have f0' : fT A b N rev r 0 = true := by
    unfold fT
    rw [sel_i (by rw [List.length_reverse]; exact hn7) (by rw [List.length_reverse]; omega)]
    rfl
  obtain ⟨S', a1, a2, a3, a4⟩ := c_ff hw ho hN hr d 0 (2 ^ rev.length - 1) 1 999999 (z_w1 S.1 62 (r * 64) (bI true), S.2) none none (by omega) (by omega) (by decide) (hG.f (fun a i ha => by dsimp only; rw [z_w1_r, if_neg (by omega)]) rfl) ⟨fun r' m' hr' hm' => by
      dsimp only
      rw [z_w1_r, if_neg (by omega)]
      exact hF.1 r' m' hr' hm', fun m' hm' => by
      dsimp only
      have : m' = 0 := by omega
      subst this
      rw [z_w1_r, if_pos ⟨rfl, rfl⟩, f0']⟩
  refine ⟨S', ?_, ⟨fun r' m' hr' hm' => ?_, fun m' hm' => by omega⟩, fun a i ha => ?_, a4⟩
  · rw [zx_50, e6, ixN (by omega) (by decide), cond_true, tN (by omega), nb]
    exact a1
  · by_cases e : r' = r
    · rw [e]; exact a2.2 m' hm'
    · exact a2.1 r' m' (by omega) hm'
  · rw [a3 a i ha]
    dsimp only
    rw [z_w1_r, if_neg (by omega)]
theorem c_g3 {b N R : Nat} {rev : List Nat} (hw : wf A) (ho : oks A rev) (hN : A 4 0 = N) (hR : A 3 0 = R) (d z : Nat) : ∀ (k r n : Nat) (S : z_St) (x1 x2 x3 x5 : Option Value), r + k = R → k + 2 ≤ n → GG A p b N rev S → F62 A b N rev S r 0 → ∃ S', z_R42 (d + 3) n 131 z [some (.ref 55), x1, x2, x3, some (.int (iI (r : Int))), x5] [] S = some (.inl none, S') ∧ F62 A b N rev S' R 0 ∧ (∀ a i, a ≠ 62 → S'.1 a i = S.1 a i) ∧ S'.2 = S.2 := by
  have hr2 := hw.r
  intro k
  induction k with
  | zero =>
    intro r n S x1 x2 x3 x5 hr hn hG hF
    obtain ⟨n, rfl⟩ : ∃ q, n = q + 2 := ⟨n - 2, by omega⟩
    obtain ⟨g1, g2⟩ := hG.2.1.p1 hG.1
    have e : r = R := by omega
    subst e
    refine ⟨S, ?_, hF, fun _ _ _ => rfl, rfl⟩
    rw [zq_42_131, g1, cond_false, g2, hG.1.p3, cond_true, c_3 hG.1, hR, if_pos (by rw [iI_le (by omega) (by omega) (by omega) (by omega)]; omega), zq_42_155]
  | succ k ih =>
    intro r n S x1 x2 x3 x5 hr hn hG hF
    obtain ⟨n, rfl⟩ : ∃ q, n = q + 1 := ⟨n - 1, by omega⟩
    obtain ⟨g1, g2⟩ := hG.2.1.p1 hG.1
    have e2 : (r : Int) + ((1 : Nat) : Int) = ((r + 1 : Nat) : Int) := by omega
    obtain ⟨S1, a1, a2, a3, a4⟩ := c_ffE hw ho hN (show (r : Int) < A 3 0 by omega) hG hF d
    obtain ⟨S2, b1, b2, b3, b4⟩ := ih (r + 1) n S1 none none none none (by omega) (by omega) (hG.f (fun a i ha => a3 a i (by omega)) a4) a2
    refine ⟨S2, ?_, b2, fun a i ha => (b3 a i ha).trans (a3 a i ha), b4.trans a4⟩
    rw [zq_42_131, g1, cond_false, g2, hG.1.p3, cond_true, c_3 hG.1, hR, if_neg (by rw [iI_le (by omega) (by omega) (by omega) (by omega)]; omega), a1, clv_v, iI_n 1, iI_add, e2]
    exact b1
theorem oks_rv (hw : wf A) {b : Nat} : oks A (rv A b (A 6 0).toNat) := by
  have hk := hw.k
  refine ⟨by rw [rv_len]; have := hw.lc b; omega, fun y hy => ?_⟩
  have hm := rv_mem hy
  have h1 := hw.lr (i := y) (by omega)
  exact ⟨h1.2.1, h1.2.2.1, h1.2.2.2⟩
/-- gather -/
theorem c_gather {b : Nat} (hw : wf A) (hC : CI p A S) (hb : (b : Int) < A 2 0) (d : Nat) : ∃ S', z_ew (d + 4) 42 [.ref 55, .ref p, .ref 24, .int (iI (b : Int))] S = some (.inl none, S') ∧ GG A p b (A 4 0).toNat (rv A b (A 6 0).toNat) S' ∧ F62 A b (A 4 0).toNat (rv A b (A 6 0).toNat) S' (A 3 0).toNat 0 ∧ (∀ a i, a < 55 ∨ 64 ≤ a → S'.1 a i = S.1 a i) ∧ S'.2 = S.2 := by
  have hb2 := hw.b
  have hr2 := hw.r
  have hk := hw.k
  have hl := hw.l
  have hp := hC.1
  have ho := oks_rv hw (b := b)
  obtain ⟨S0, hS0⟩ : ∃ S0 : z_St, S0 = (z_w1 (z_w1 S.1 55 0 (nI p)) 55 1 (nI 0), S.2) := ⟨_, rfl⟩
  have f0 : ∀ a i, a ≠ 55 → S0.1 a i = S.1 a i := by
    intro a i ha
    rw [hS0]
    dsimp only
    rw [z_w1_r, if_neg (by omega), z_w1_r, if_neg (by omega)]
  have hC0 : CI p A S0 := hC.sc (fun a ha i => f0 a i (by omega)) (by rw [hS0])
  have hG0 : Gr A p (rv A b 0) S0 := by
    rw [hS0]
    refine ⟨?_, ?_, trivial, trivial, trivial, trivial⟩
    · dsimp only
      rw [z_w1_r, if_neg (by omega), z_w1_r, if_pos ⟨rfl, rfl⟩, iI_n]
    · dsimp only
      rw [z_w1_r, if_pos ⟨rfl, rfl⟩]
      rfl
  obtain ⟨S1, m1, y1, a1, a2, a3, a4⟩ := c_g1 (p := p) (b := b) (N := (A 6 0).toNat) hw (by omega) (by omega) (d + 1) 0 (A 6 0).toNat 0 999999 S0 (some (.ref p)) none (by omega) (by omega) hC0 hG0
  have hC1 := hC0.f4 a4
  obtain ⟨S2, b1, b2, b3, b4⟩ := fillE (r := 60) (N := 48) (v := nI 0) rfl rfl rfl (by decide) (d + 2) S1
  obtain ⟨S3, c1, c2, c3, c4⟩ := fillE (r := 61) (N := 48) (v := nI 0) rfl rfl rfl (by decide) (d + 2) S2
  have fr3 : fr2 S1 S3 := ⟨fun a i h1 h2 => by rw [c3 a i (by omega), b3 a i (by omega)], c4.trans b4⟩
  have hQ0 : Qh (rv A b (A 6 0).toNat).length S3 (fun r j => lhP A b r (A 33 ((rv A b (A 6 0).toNat).reverse.getD j 0)) 0) (fun r j => bgP A b r (A 33 ((rv A b (A 6 0).toNat).reverse.getD j 0)) 0) := by
    intro r j hr hj
    have := ho.1
    refine ⟨?_, ?_⟩
    · rw [c3 60 _ (by omega), b2 _ (by omega)]
      rfl
    · rw [c2 _ (by omega)]
      rfl
  obtain ⟨m1, rfl⟩ : ∃ m, m1 = m + 1 := ⟨m1 - 1, by omega⟩
  obtain ⟨S4, m4, e1, e2, e3, e4⟩ := c_g2 (p := p) (b := b) (N := (A 4 0).toNat) (n := (rv A b (A 6 0).toNat).length) (rev := rv A b (A 6 0).toNat) hw (by omega) (by omega) rfl (by have := ho.1; omega) (fun j hj => (ho.g hj).1) (d + 1) 0 (A 4 0).toNat 0 m1 S3 none none (by omega) (by omega) (hC1.f2 fr3) (a3.f2 fr3) hQ0
  obtain ⟨m4, rfl⟩ : ∃ m, m4 = m + 1 := ⟨m4 - 1, by omega⟩
  have hGG : GG A p b (A 4 0).toNat (rv A b (A 6 0).toNat) S4 := ⟨(hC1.f2 fr3).f2 e4, (a3.f2 fr3).f2 e4, e3⟩
  obtain ⟨S5, g1, g2, g3, g4⟩ := c_g3 (p := p) (R := (A 3 0).toNat) hw ho (N := (A 4 0).toNat) (b := b) (by omega) (by omega) d 0 (A 3 0).toNat 0 m4 S4 none none none none (by omega) (by omega) hGG ⟨fun r' m' hr' => by omega, fun m' hm' => by omega⟩
  refine ⟨S5, ?_, hGG.f (fun a i ha => g3 a i (by omega)) g4, g2, fun a i ha => ?_, ?_⟩
  · rw [zx_42]
    refine (cond_t (by rcases hp with e | e <;> rw [e] <;> rfl)).trans ?_
    rw [← hS0]
    have a2' : z_R42 (d + 3) 999999 13 0 [some (.ref 55), some (.ref p), some (.ref 24), some (.int (iI (b : Int))), some (.int (nI 0)), none] [] S0 = _ := a2
    rw [a2', zq_42_45, b1, clv_v, c1, clv_v]
    have e2' : z_R42 (d + 3) m1 64 0 [some (.ref 55), none, some (.ref 24), some (.int (iI (b : Int))), some (.int (nI 0)), none] [] S3 = _ := e2
    rw [e2', zq_42_128]
    exact g1
  · rw [g3 a i (by omega), e4.1 a i (by omega) (by omega), fr3.1 a i (by omega) (by omega), a4.1 a i (by omega), f0 a i (by omega)]
  · rw [g4, e4.2, fr3.2, a4.2, hS0]
end FT2
