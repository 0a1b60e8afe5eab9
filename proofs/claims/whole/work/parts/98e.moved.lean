/-! moved: the call -/
theorem iI_or (a b : Nat) : iI (a : Int) ||| iI (b : Int) = iI ((a ||| b : Nat) : Int) := by
  apply Int32.toBitVec_inj.mp
  show BitVec.ofInt 32 (a : Int) ||| BitVec.ofInt 32 (b : Int) = BitVec.ofInt 32 ((a ||| b : Nat) : Int)
  rw [BitVec.ofInt_natCast, BitVec.ofInt_natCast, BitVec.ofInt_natCast, BitVec.ofNat_or]
theorem bB_p : ∀ x : Nat, x < 24 → nI 1 <<< (iI (x : Int) &&& 31) = iI ((2 ^ x : Nat) : Int) := by decide +kernel
theorem sln_0 : ∀ row : List Nat, sln row 0 = row
  | [] => rfl
  | x :: t => by
    show (if 0 % 2 = 1 then sln t (0 / 2) else x :: sln t (0 / 2)) = _
    rw [if_neg (by decide), Nat.zero_div, sln_0 t]
theorem fil_n {x : Nat} {t : List Nat} (h : x ∉ t) : t.filter (fun y => !(decide (y = x))) = t := by
  rw [List.filter_eq_self]
  intro y hy
  rw [decide_eq_false (fun e => h (by rw [← e]; exact hy))]
  rfl
theorem sln_p : ∀ (row : List Nat) (i : Nat), i < row.length → row.Pairwise (fun a b => a ≠ b) → sln row (2 ^ i) = row.filter (fun y => !(decide (y = row.getD i 0)))
  | [], i, h, _ => absurd h (Nat.not_lt_zero i)
  | x :: t, 0, _, hp => by
    have hx : x ∉ t := fun e => (List.pairwise_cons.mp hp).1 x e rfl
    show (if 2 ^ 0 % 2 = 1 then sln t (2 ^ 0 / 2) else x :: sln t (2 ^ 0 / 2)) = (x :: t).filter (fun y => !(decide (y = x)))
    rw [if_pos (by decide), show 2 ^ 0 / 2 = 0 by decide, sln_0, List.filter_cons, decide_eq_true rfl, if_neg (by decide), fil_n hx]
  | x :: t, i + 1, h, hp => by
    have h : i + 1 < t.length + 1 := h
    have hp' := List.pairwise_cons.mp hp
    have ih := sln_p t i (by omega) hp'.2
    show (if 2 ^ (i + 1) % 2 = 1 then sln t (2 ^ (i + 1) / 2) else x :: sln t (2 ^ (i + 1) / 2)) = (x :: t).filter (fun y => !(decide (y = t.getD i 0)))
    rw [Nat.pow_succ, if_neg (by omega), Nat.mul_div_cancel _ (by decide), ih, List.filter_cons, decide_eq_false (hp'.1 _ (getD_mem (by omega))), if_pos (by decide)]
theorem insR_f {f : Nat → Int} {l : Nat} : ∀ t : List Nat, (insR f l t).filter (fun y => !(decide (y = l))) = t.filter (fun y => !(decide (y = l)))
  | [] => by
    show [l].filter _ = _
    rw [List.filter_cons, decide_eq_true rfl, if_neg (by decide)]
  | x :: t => by
    rw [insR_s]
    split
    · rw [List.filter_cons, List.filter_cons, insR_f t]
    · rw [List.filter_cons, decide_eq_true rfl, if_neg (by decide)]
theorem insR_hd {f : Nat → Int} {l : Nat} : ∀ t : List Nat, (∀ y, y ∈ t → f y ≤ f l) → insR f l t = l :: t
  | [], _ => rfl
  | x :: t, h => by
    have := h x List.mem_cons_self
    rw [insR_s, if_neg (by omega)]
theorem insR_g {f : Nat → Int} {l k : Nat} (hk : k ≠ l) : ∀ t : List Nat, t.Pairwise (fun l o => o ≠ l ∧ f o ≤ f l) → (insR f k t).filter (fun y => !(decide (y = l))) = insR f k (t.filter (fun y => !(decide (y = l))))
  | [], _ => by
    show [k].filter _ = [k]
    rw [List.filter_cons, decide_eq_false hk, if_pos (by decide)]
    rfl
  | x :: t, hp => by
    have hp' := List.pairwise_cons.mp hp
    have ih := insR_g (f := f) hk t hp'.2
    rw [insR_s]
    by_cases q : f k < f x
    · rw [if_pos q, List.filter_cons, List.filter_cons, ih]
      by_cases e : x = l
      · rw [decide_eq_true e, if_neg (by decide), if_neg (by decide)]
      · rw [decide_eq_false e, if_pos (by decide), if_pos (by decide), insR_s, if_pos q]
    · rw [if_neg q, List.filter_cons, decide_eq_false hk, if_pos (by decide), insR_hd]
      intro y hy
      have := (List.mem_filter.mp hy).1
      rcases List.mem_cons.mp this with rfl | h
      · omega
      · have := (hp'.1 y h).2
        omega
theorem rvb_f {A : aS} {b l : Nat} : ∀ L, rvb A b (l : Int) L = (rv A b L).filter (fun y => !(decide (y = l)))
  | 0 => rfl
  | L + 1 => by
    have ih := rvb_f (A := A) (b := b) (l := l) L
    have hp := rvb_pw (A := A) (b := b) (but := -1) L
    rw [rvb_e] at hp
    rw [rvb_s, rv_s, ih]
    by_cases q : A 32 L = b
    · rw [if_pos q]
      by_cases e : L = l
      · subst e
        rw [if_neg (fun z => z.2 rfl), insR_f]
      · rw [if_pos ⟨q, by omega⟩, insR_g e _ hp]
    · rw [if_neg q, if_neg (fun z => q z.1)]
/-- there are ways without a look -/
def wo (A : aS) (b l : Nat) : Prop := 0 < (wy (cK A b (A 4 0).toNat) (List.range (A 3 0).toNat) (rvb A b (l : Int) (A 6 0).toNat).reverse s0).length
section MVD
variable {p : Nat} {A : aS} {S : z_St}
theorem c_mvL {b : Nat} (hw : wf A) (hG : GG A p b (A 4 0).toNat (rv A b (A 6 0).toNat) S) (hN : N63 A b (A 4 0).toNat (rv A b (A 6 0).toNat) (List.range (A 3 0).toNat) S) (d z : Nat) : ∀ (k i n M : Nat), i + k = (rv A b (A 6 0).toNat).length → 2 * k + 2 ≤ n → (∀ x, M.testBit x = true ↔ ∃ j, j < i ∧ (rv A b (A 6 0).toNat).reverse.getD j 0 = x ∧ wo A b x) → ∃ M' : Nat, z_R46 (d + 1) n 13 z [some (.ref 55), some (.int (iI (M : Int))), some (.int (iI (i : Int)))] [] S = some (.inl (some (.int (iI (M' : Int)))), S) ∧ ∀ x, M'.testBit x = true ↔ ∃ j, j < (rv A b (A 6 0).toNat).length ∧ (rv A b (A 6 0).toNat).reverse.getD j 0 = x ∧ wo A b x := by
  have hk6 := hw.k
  have hr2 := hw.r
  have h7 := (oks_rv hw (b := b)).1
  have h6 : 2 ^ (rv A b (A 6 0).toNat).length ≤ 2 ^ 6 := Nat.pow_le_pow_right (by decide) (by omega)
  have h64 := (all_t _ h7).2
  have hlen : (rv A b (A 6 0).toNat).reverse.length = (rv A b (A 6 0).toNat).length := List.length_reverse
  have hro := RO_rv (b := b) (but := -1) hw
  rw [rvb_e] at hro
  intro k
  induction k with
  | zero =>
    intro i n M hi hn hM
    obtain ⟨n, rfl⟩ : ∃ q, n = q + 2 := ⟨n - 2, by omega⟩
    have e : i = (rv A b (A 6 0).toNat).length := by omega
    rw [e] at hM ⊢
    refine ⟨M, ?_, hM⟩
    rw [zq_46_13, hG.2.1.2.1, if_pos (by rw [iI_le (by omega) (by omega) (by omega) (by omega)]; omega), zq_46_54]
  | succ k ih =>
    intro i n M hi hn hM
    obtain ⟨n, rfl⟩ : ∃ q, n = q + 2 := ⟨n - 2, by omega⟩
    have e2 : (i : Int) + ((1 : Nat) : Int) = ((i + 1 : Nat) : Int) := by omega
    have hil : i < (rv A b (A 6 0).toNat).reverse.length := by omega
    have h2i : 2 ^ i < 2 ^ (rv A b (A 6 0).toNat).length := Nat.pow_lt_pow_right (by decide) (by omega)
    have hx : (2 ^ (rv A b (A 6 0).toNat).length - 1) ^^^ 2 ^ i < 2 ^ (rv A b (A 6 0).toNat).length := Nat.xor_lt_two_pow (by omega) h2i
    have hv := hN _ hx
    have hs := sln_x (rv A b (A 6 0).toNat).reverse (2 ^ i) (by rw [hlen]; exact h2i)
    rw [hlen, sln_p _ i hil (hro.2.2.imp (fun h => h.1))] at hs
    have hn2 : nM A b (A 4 0).toNat (rv A b (A 6 0).toNat) (List.range (A 3 0).toNat) ((2 ^ (rv A b (A 6 0).toNat).length - 1) ^^^ 2 ^ i) = (wy (cK A b (A 4 0).toNat) (List.range (A 3 0).toNat) (rvb A b (((rv A b (A 6 0).toNat).reverse.getD i 0 : Nat) : Int) (A 6 0).toNat).reverse s0).length := by
      unfold nM nw
      rw [hs, rvb_f, List.filter_reverse]
    have hb : (wy (cK A b (A 4 0).toNat) (List.range (A 3 0).toNat) (rvb A b (((rv A b (A 6 0).toNat).reverse.getD i 0 : Nat) : Int) (A 6 0).toNat).reverse s0).length ≤ 262144 := by
      refine Nat.le_trans (nw_le _ _ _ _) ?_
      have g3 := (RO_rv (b := b) (but := (((rv A b (A 6 0).toNat).reverse.getD i 0 : Nat) : Int)) hw).1
      rw [List.length_range]
      exact Nat.le_trans (Nat.pow_le_pow_left (show _ ≤ 8 by omega) _) (Nat.le_trans (Nat.pow_le_pow_right (by decide) (show _ ≤ 6 by omega)) (by decide))
    rw [hn2] at hv
    have hgi := hro.g hil
    have hst : S.1 56 i = iI ((rv A b (A 6 0).toNat).reverse.getD i 0 : Int) := stk_get _ hG.2.1.2.2.1 i (by omega)
    rw [zq_46_13, hG.2.1.2.1, if_neg (by rw [iI_le (by omega) (by omega) (by omega) (by omega)]; omega), c_all hG h7 d, cli_i, xor_t _ h64.1 i (by omega), ixN (show (2 ^ (rv A b (A 6 0).toNat).length - 1) ^^^ 2 ^ i < 64 by omega) (by decide), cond_true, tN (by omega), hv]
    by_cases q : wo A b ((rv A b (A 6 0).toNat).reverse.getD i 0)
    · obtain ⟨M', a1, a2⟩ := ih (i + 1) n (M ||| 2 ^ (rv A b (A 6 0).toNat).reverse.getD i 0) (by omega) (by omega) (fun x => by
        rw [Nat.testBit_or, Nat.testBit_two_pow, Bool.or_eq_true, decide_eq_true_iff, hM x]
        constructor
        · rintro (⟨j, h1, h2⟩ | rfl)
          · exact ⟨j, by omega, h2⟩
          · exact ⟨i, by omega, rfl, q⟩
        · rintro ⟨j, h1, h2, h3⟩
          by_cases e : j = i
          · exact Or.inr (by rw [← e]; exact h2)
          · exact Or.inl ⟨j, by omega, h2, h3⟩)
      refine ⟨M', ?_, a2⟩
      have q' : 0 < (wy (cK A b (A 4 0).toNat) (List.range (A 3 0).toNat) (rvb A b (((rv A b (A 6 0).toNat).reverse.getD i 0 : Nat) : Int) (A 6 0).toNat).reverse s0).length := q
      rw [if_neg (by rw [iI_0, iI_le (by omega) (by omega) (by decide) (by decide)]; omega), ixN (show i < 6 by omega) (by decide), cond_true, tN (show i < 2147483648 by omega), hst, bB_p _ (by omega), iI_or, zq_46_48, iI_n 1, iI_add, e2]
      exact a1
    · obtain ⟨M', a1, a2⟩ := ih (i + 1) n M (by omega) (by omega) (fun x => by
        rw [hM x]
        constructor
        · rintro ⟨j, h1, h2⟩
          exact ⟨j, by omega, h2⟩
        · rintro ⟨j, h1, h2, h3⟩
          by_cases e : j = i
          · subst e
            rw [← h2] at h3
            exact absurd h3 q
          · exact ⟨j, by omega, h2, h3⟩)
      refine ⟨M', ?_, a2⟩
      have q' : ¬ 0 < (wy (cK A b (A 4 0).toNat) (List.range (A 3 0).toNat) (rvb A b (((rv A b (A 6 0).toNat).reverse.getD i 0 : Nat) : Int) (A 6 0).toNat).reverse s0).length := q
      rw [if_pos (by rw [iI_0, iI_le (by omega) (by omega) (by decide) (by decide)]; omega), zq_46_48, iI_n 1, iI_add, e2]
      exact a1
theorem m_mvL {b N : Nat} (hw : wf A) (hb : (b : Int) < A 2 0) (hN : A 6 0 = N) (d z : Nat) : ∀ (k l n M : Nat) (S : z_St), l + k = N → 5 * k + 2 ≤ n → MI A S → (∀ x, M.testBit x = true ↔ x < l ∧ A 32 x = b ∧ wo A b x) → ∃ (S' : z_St) (M' : Nat), z_R172 (d + 12) n 38 z [some (.ref 70), some (.int (iI (b : Int))), some (.int (iI (M : Int))), some (.int (iI (l : Int)))] [] S = some (.inl (some (.int (iI (M' : Int)))), S') ∧ (∀ x, M'.testBit x = true ↔ x < N ∧ A 32 x = b ∧ wo A b x) ∧ frY S S' := by
  have hk6 := hw.k
  have hr2 := hw.r
  have hl2 := hw.l
  have hb2 := hw.b
  intro k
  induction k with
  | zero =>
    intro l n M S hl hn hM hx
    obtain ⟨n, rfl⟩ : ∃ q, n = q + 2 := ⟨n - 2, by omega⟩
    have e : l = N := by omega
    subst e
    refine ⟨S, M, ?_, hx, fun _ _ _ _ => rfl, rfl⟩
    rw [zq_172_38, m_6 hM, hN, if_pos (by rw [iI_le (by omega) (by omega) (by omega) (by omega)]; omega), zq_172_88]
  | succ k ih =>
    intro l n M S hl hn hM hx
    obtain ⟨n, rfl⟩ : ∃ q, n = q + 5 := ⟨n - 5, by omega⟩
    have e2 : (l : Int) + ((1 : Nat) : Int) = ((l + 1 : Nat) : Int) := by omega
    have hlr := hw.lr (i := l) (by omega)
    rw [zq_172_38, m_6 hM, hN, if_neg (by rw [iI_le (by omega) (by omega) (by omega) (by omega)]; omega), ixN (show l < 24 by omega) (by decide), cond_true, tN (by omega), m_32 hM (by omega)]
    by_cases q : A 32 l = b
    · rw [if_pos (by rw [q]), zq_172_59]
      obtain ⟨S1, c1, c2, _, c4⟩ := m_tws (N := (A 4 0).toNat) (R := (A 3 0).toNat) (but := (l : Int)) hM hw (by omega) (by omega) hb (by omega) (d + 12) (by omega)
      have hbd : (wy (cK A b (A 4 0).toNat) (List.range (A 3 0).toNat) (rvb A b (l : Int) (A 6 0).toNat).reverse s0).length ≤ 262144 := by
        refine Nat.le_trans (nw_le _ _ _ _) ?_
        have g3 := (RO_rv (b := b) (but := (l : Int)) hw).1
        rw [List.length_range]
        exact Nat.le_trans (Nat.pow_le_pow_left (show _ ≤ 8 by omega) _) (Nat.le_trans (Nat.pow_le_pow_right (by decide) (show _ ≤ 6 by omega)) (by decide))
      rw [c1, clv_v, c2.1, List.length_reverse]
      by_cases q2 : wo A b l
      · have q' : 0 < (wy (cK A b (A 4 0).toNat) (List.range (A 3 0).toNat) (rvb A b (l : Int) (A 6 0).toNat).reverse s0).length := q2
        obtain ⟨S', M', a1, a2, a3⟩ := ih (l + 1) (n + 1) (M ||| 2 ^ l) S1 (by omega) (by omega) (hM.fY hw c4) (fun x => by
          rw [Nat.testBit_or, Nat.testBit_two_pow, Bool.or_eq_true, decide_eq_true_iff, hx x]
          constructor
          · rintro (⟨h1, h2⟩ | rfl)
            · exact ⟨by omega, h2⟩
            · exact ⟨by omega, q, q2⟩
          · rintro ⟨h1, h2⟩
            by_cases e : l = x
            · exact Or.inr e
            · exact Or.inl ⟨by omega, h2⟩)
        refine ⟨S', M', ?_, a2, c4.tr a3⟩
        rw [if_neg (by rw [iI_0, iI_le (by omega) (by omega) (by decide) (by decide)]; omega), bB_p _ (by omega), zq_172_80, iI_or, zq_172_82, iI_n 1, iI_add, e2]
        exact a1
      · have q' : ¬ 0 < (wy (cK A b (A 4 0).toNat) (List.range (A 3 0).toNat) (rvb A b (l : Int) (A 6 0).toNat).reverse s0).length := q2
        obtain ⟨S', M', a1, a2, a3⟩ := ih (l + 1) n (M ||| 0) S1 (by omega) (by omega) (hM.fY hw c4) (fun x => by
          rw [Nat.or_zero, hx x]
          constructor
          · rintro ⟨h1, h2⟩
            exact ⟨by omega, h2⟩
          · rintro ⟨h1, h2⟩
            by_cases e : l = x
            · subst e
              exact absurd h2.2 q2
            · exact ⟨by omega, h2⟩)
        refine ⟨S', M', ?_, a2, c4.tr a3⟩
        rw [if_pos (by rw [iI_0, iI_le (by omega) (by omega) (by decide) (by decide)]; omega), zq_172_79, zq_172_80, iI_n 0, iI_or, zq_172_82, iI_n 1, iI_add, e2]
        exact a1
    · rw [if_neg (by rw [iI_eq (by omega) (by omega) (by omega) (by omega)]; exact q), zq_172_82, iI_n 1, iI_add, e2]
      refine ih (l + 1) (n + 3) M S (by omega) (by omega) hM (fun x => ?_)
      rw [hx x]
      constructor
      · rintro ⟨h1, h2⟩
        exact ⟨by omega, h2⟩
      · rintro ⟨h1, h2⟩
        by_cases e : l = x
        · subst e
          exact absurd h2.1 q
        · exact ⟨by omega, h2⟩
end MVD
theorem o_moved (a : Int32) : OpW 206 172 [.int a] := by
  intro S ⟨p, A, hC, hM, hw⟩
  obtain ⟨v, h1, h2, rfl⟩ := iI_of a
  have hk6 := hw.k
  by_cases q1 : 0 ≤ v ∧ v < A 2 0
  · obtain ⟨b, rfl, k1⟩ := okB.n q1
    have h7 := (oks_rv hw (b := b)).1
    have hlW := wy_l (b := b) hw
    obtain ⟨S1, a1, a2, a3, a4, a5⟩ := c_gather hw hC k1 994
    obtain ⟨S2, b1, b2, b3, b4⟩ := c_wys hw a2 a3 993
    have hG2 := a2.f (fun a i h => b3 a i (by omega)) b4
    obtain ⟨M, e1, e2⟩ := c_mvL (p := p) hw hG2 b2 996 0 (rv A b (A 6 0).toNat).length 0 999998 0 (by omega) (by omega) (fun x => by
      rw [Nat.zero_testBit]
      exact ⟨fun e => (by cases e), fun ⟨j, h, _⟩ => absurd h (Nat.not_lt_zero j)⟩)
    refine opW_mk (cm := 91) (o := some (if 0 < (wyA A b).length then 0 else (M : Int))) (p' := p) (A' := A) (S1 := S2) (fun _ _ e => w_206 e) (fun _ e => w_206x e) hw hM ?_ (fC_g (fun a i h => (b3 a i (by omega)).trans (a4 a i h)) (b4.trans a5)) hG2.1 hw (fun S3 h => ?_)
    · rw [zx_91 998, rqB1 hC hw k1 997, clv_v, hC.p1, cond_false, hC.p2, a1, clv_v, zx_46 997, b1, cli_i]
      by_cases q : 0 < (wyA A b).length
      · rw [if_neg (by rw [iI_0, iI_le (by omega) (by omega) (by decide) (by decide)]; omega), cli_i, if_pos q]
        rfl
      · rw [if_pos (by rw [iI_0, iI_le (by omega) (by omega) (by decide) (by decide)]; omega), zq_46_9, iI_n 0, e1, cli_i, if_neg q]
        rfl
    · have h0 : MI A (z_w1 S3.1 70 1 (nI 0), S3.2) := h.code hw
      obtain ⟨S4, c1, c2, _, c4⟩ := m_wysA h0 hw k1 999 (by decide)
      have fm := (fM_w1 (S := S3) (a := 70) (i := 1) (v := nI 0) (by decide) (by decide)).tr (fM_Y c4)
      have h01 : S4.1 70 1 = iI 0 := by
        rw [c4.1 70 1 (by decide) (by decide)]
        dsimp only
        rw [z_w1_r, if_pos ⟨rfl, rfl⟩]
        rfl
      by_cases q : 0 < (wyA A b).length
      · refine ⟨S4, ?_, fm, h0.fY hw c4, h01⟩
        rw [zx_172 999, isB1 h0 hw k1 997, cli_i, if_neg n10, zq_172_19, nm1, c1, clv_v, c2.1, List.length_reverse, if_neg (by rw [iI_0, iI_le (by omega) (by omega) (by decide) (by decide)]; omega), if_pos q]
        rfl
      · obtain ⟨S5, M', d1, d2, d3⟩ := m_mvL (N := (A 6 0).toNat) hw k1 (by omega) 987 0 (A 6 0).toNat 0 999997 0 S4 (by omega) (by omega) (h0.fY hw c4) (fun x => by
          rw [Nat.zero_testBit]
          exact ⟨fun e => (by cases e), fun e => absurd e.1 (Nat.not_lt_zero x)⟩)
        have eM : M' = M := by
          refine Nat.eq_of_testBit_eq (fun x => ?_)
          rw [Bool.eq_iff_iff, d2 x, e2 x]
          constructor
          · rintro ⟨g1, g2, g3⟩
            obtain ⟨j, hj, hj2⟩ := rv_ix (b := b) hw (l := x) (by omega) g2
            exact ⟨j, hj, hj2, g3⟩
          · rintro ⟨j, g1, rfl, g3⟩
            have hm : (rv A b (A 6 0).toNat).reverse.getD j 0 ∈ (rv A b (A 6 0).toNat).reverse := getD_mem (by rw [List.length_reverse]; exact g1)
            have := rv_mem (List.mem_reverse.mp hm)
            exact ⟨this.1, this.2, g3⟩
        refine ⟨S5, ?_, fm.tr (fM_Y d3), (h0.fY hw c4).fY hw d3, by rw [d3.1 70 1 (by decide) (by decide)]; exact h01⟩
        rw [zx_172 999, isB1 h0 hw k1 997, cli_i, if_neg n10, zq_172_19, nm1, c1, clv_v, c2.1, List.length_reverse, if_pos (by rw [iI_0, iI_le (by omega) (by omega) (by decide) (by decide)]; omega), zq_172_34, iI_n 0, if_neg q, ← eM]
        exact d1
  · refine opW_mk (cm := 91) (o := none) (p' := p) (A' := A) (S1 := S) (fun _ _ e => w_206 e) (fun _ e => w_206x e) hw hM ?_ (fC.rf S) hC hw (fun S2 h => mQ_same hw h ?_)
    · rw [zx_91 998, rqB0 hC hw h1 h2 q1 997, clv_x, hnd_0]
      rfl
    · have h0 : MI A (z_w1 S2.1 70 1 (nI 0), S2.2) := h.code hw
      rw [zx_172 999, isB0 h0 hw h1 h2 q1 997, cli_i, if_pos z00, zx_111 998, cli_i, z_w1_w1]
      rfl
