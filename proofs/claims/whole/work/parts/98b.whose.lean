/-! whose: the call -/
theorem rv_in {A : aS} {b y : Nat} : ∀ {l}, y < l → A 32 y = b → y ∈ rv A b l
  | 0, h, _ => absurd h (Nat.not_lt_zero y)
  | l + 1, h, hb => by
    rw [rv_s]
    by_cases e : y = l
    · subst e
      rw [if_pos hb]
      exact insR_mem.mpr (Or.inl rfl)
    · have ih := rv_in (l := l) (by omega) hb
      split
      · exact insR_mem.mpr (Or.inr ih)
      · exact ih
theorem rv_ix {A : aS} {b l : Nat} (hw : wf A) (hl : (l : Int) < A 6 0) (hb : A 32 l = b) : ∃ j0, j0 < (rv A b (A 6 0).toNat).length ∧ (rv A b (A 6 0).toNat).reverse.getD j0 0 = l := by
  have hk := hw.k
  obtain ⟨j, hj, e⟩ := List.getElem_of_mem (List.mem_reverse.mpr (rv_in (A := A) (b := b) (y := l) (l := (A 6 0).toNat) (by omega) hb))
  refine ⟨j, by rw [List.length_reverse] at hj; exact hj, ?_⟩
  rw [List.getD_eq_getElem?_getD, List.getElem?_eq_getElem hj]
  exact e
theorem sm_1 : ∀ r : Nat, r < 8 → 0 ||| 2 ^ r = 2 ^ r ∧ 255 &&& 2 ^ r = 2 ^ r ∧ oo (2 ^ r) 8 = r := by decide +kernel
theorem sm_2 : ∀ r : Nat, r < 8 → ∀ q : Nat, q < 8 → r ≠ q → 2 ^ r &&& 2 ^ q = 0 ∧ 2 ^ r ||| 2 ^ q ≠ 0 ∧ ∀ i : Nat, i < 8 → 2 ^ r ||| 2 ^ q ≠ 2 ^ i := by decide +kernel
def np8 (M : Nat) : Bool := (List.range 8).all (fun i => decide (M ≠ 2 ^ i))
theorem np8_i {M : Nat} : np8 M = true ↔ ∀ i, i < 8 → M ≠ 2 ^ i := by
  unfold np8
  rw [List.all_eq_true]
  exact ⟨fun h i hi => of_decide_eq_true (h i (List.mem_range.mpr hi)), fun h i hi => decide_eq_true (h i (List.mem_range.mp hi))⟩
theorem sm_4 : ∀ M : Nat, M < 256 → ∀ q : Nat, q < 8 → (decide (M = 0) || !(np8 M) || (decide (M ||| 2 ^ q ≠ 0) && np8 (M ||| 2 ^ q))) = true := by decide +kernel
theorem sm_3 {M : Nat} (hM : M < 256) (h0 : M ≠ 0) (h : ∀ i : Nat, i < 8 → M ≠ 2 ^ i) {q : Nat} (hq : q < 8) : M ||| 2 ^ q ≠ 0 ∧ ∀ i : Nat, i < 8 → M ||| 2 ^ q ≠ 2 ^ i := by
  have := sm_4 M hM q hq
  rw [decide_eq_false h0, np8_i.mpr h] at this
  have := Bool.and_eq_true_iff.mp this
  exact ⟨of_decide_eq_true this.1, np8_i.mp this.2⟩
theorem shw_t : ∀ r : Nat, r < 8 → ∀ i : Nat, i < 8 → ((iI ((2 ^ r : Nat) : Int) >>> (iI (i : Int) &&& 31)) &&& nI 1 = 0 ↔ i ≠ r) := by decide +kernel
theorem sm_W {n0 j : Nat} (hj : j < n0) : ∀ W : List (List Nat), w8 n0 W → W ≠ [] → (∃ r, r < 8 ∧ myB j W = 2 ^ r ∧ suB j W = 2 ^ r) ∨ (suB j W = 0 ∧ myB j W ≠ 0 ∧ ∀ i, i < 8 → myB j W ≠ 2 ^ i)
  | [], _, h => absurd rfl h
  | w :: t, h, _ => by
    have h8 := h w List.mem_cons_self j hj
    have ht : w8 n0 t := fun x hx => h x (List.mem_cons_of_mem w hx)
    show (∃ r, r < 8 ∧ myB j t ||| 2 ^ w.getD j 0 = 2 ^ r ∧ suB j t &&& 2 ^ w.getD j 0 = 2 ^ r) ∨ (suB j t &&& 2 ^ w.getD j 0 = 0 ∧ myB j t ||| 2 ^ w.getD j 0 ≠ 0 ∧ ∀ i, i < 8 → myB j t ||| 2 ^ w.getD j 0 ≠ 2 ^ i)
    by_cases e : t = []
    · subst e
      exact Or.inl ⟨_, h8, (sm_1 _ h8).1, (sm_1 _ h8).2.1⟩
    · rcases sm_W hj t ht e with ⟨r, hr, h1, h2⟩ | ⟨h1, h2, h3⟩
      · rw [h1, h2]
        by_cases q : r = w.getD j 0
        · refine Or.inl ⟨r, hr, ?_, ?_⟩
          · rw [← q, Nat.or_self]
          · rw [← q, Nat.and_self]
        · exact Or.inr (sm_2 r hr _ h8 q)
      · rw [h1, Nat.zero_and]
        exact Or.inr ⟨rfl, sm_3 (myB_l hj t ht) h2 h3 h8⟩
theorem oo_n {M : Nat} : ∀ k, (∀ i, i < k → M ≠ 2 ^ i) → oo M k = -1
  | 0, _ => rfl
  | k + 1, h => by
    rw [oo_s, if_neg (h k (by omega))]
    exact oo_n k (fun i hi => h i (by omega))
section WHO
variable {p : Nat} {A : aS} {S : z_St}
theorem m_shL {l r : Nat} (hl : l < 24) (hr : r < 8) (hS : S.1 104 l = iI ((2 ^ r : Nat) : Int)) (d z : Nat) : ∀ (k i n : Nat) (x2 : Option Value), i + k = r → k + 2 ≤ n → z_R170 d n 76 z [some (.ref 70), some (.int (iI (l : Int))), x2, some (.int (iI (i : Int)))] [] S = some (.inl (some (.int (iI (r : Int)))), S) := by
  intro k
  induction k with
  | zero =>
    intro i n x2 hi hn
    obtain ⟨n, rfl⟩ : ∃ q, n = q + 2 := ⟨n - 2, by omega⟩
    have e : i = r := by omega
    subst e
    rw [zq_170_76, ixN hl (by decide), cond_true, tN (by omega), hS, if_neg (fun e => (shw_t i hr i hr).mp e rfl), zq_170_95]
  | succ k ih =>
    intro i n x2 hi hn
    obtain ⟨n, rfl⟩ : ∃ q, n = q + 1 := ⟨n - 1, by omega⟩
    have e2 : (i : Int) + ((1 : Nat) : Int) = ((i + 1 : Nat) : Int) := by omega
    rw [zq_170_76, ixN hl (by decide), cond_true, tN (by omega), hS, if_pos ((shw_t r hr i (by omega)).mpr (by omega)), iI_n 1, iI_add, e2]
    exact ih (i + 1) n none (by omega) (by omega)
theorem c_whE {v u : Int} (hC : CI p A S) (hw : wf A) (h1 : -2147483648 ≤ v) (h2 : v < 2147483648) (h3 : -2147483648 ≤ u) (h4 : u < 2147483648) (d : Nat) : (¬ ((0 ≤ v ∧ v < A 6 0) ∧ 0 ≤ u ∧ u ≤ 1) → z_ew (d + 1) 89 [.ref 0, .int (iI v), .int (iI u)] S = some (.inr 0, S)) ∧ ((0 ≤ v ∧ v < A 6 0) ∧ 0 ≤ u ∧ u ≤ 1 → z_ew (d + 1) 89 [.ref 0, .int (iI v), .int (iI u)] S = z_R89 d 999999 34 0 [some (.ref 0), some (.int (iI v)), some (.int (iI u)), none] [] S) := by
  have hk := hw.k
  rw [zx_89, c_6 hC]
  constructor
  · intro q
    by_cases q1 : v < 0
    · rw [if_pos (by rw [iI_0, iI_lt h1 h2 (by decide) (by decide)]; exact q1), zq_89_24]
    · rw [if_neg (by rw [iI_0, iI_lt h1 h2 (by decide) (by decide)]; exact q1)]
      by_cases q2 : A 6 0 ≤ v
      · rw [if_pos (by rw [iI_le (by omega) (by omega) h1 h2]; exact q2), zq_89_24]
      · rw [if_neg (by rw [iI_le (by omega) (by omega) h1 h2]; exact q2)]
        by_cases q3 : u < 0
        · rw [if_pos (by rw [iI_0, iI_lt h3 h4 (by decide) (by decide)]; exact q3), zq_89_24]
        · rw [if_neg (by rw [iI_0, iI_lt h3 h4 (by decide) (by decide)]; exact q3), iI_n 1, if_neg (by rw [iI_le h3 h4 (by decide) (by decide)]; omega), zq_89_24]
  · intro q
    rw [if_neg (by rw [iI_0, iI_lt h1 h2 (by decide) (by decide)]; omega), if_neg (by rw [iI_le (by omega) (by omega) h1 h2]; omega), if_neg (by rw [iI_0, iI_lt h3 h4 (by decide) (by decide)]; omega), iI_n 1, if_pos (by rw [iI_le h3 h4 (by decide) (by decide)]; omega)]
theorem m_whE {v u : Int} (h : MI A S) (hw : wf A) (h1 : -2147483648 ≤ v) (h2 : v < 2147483648) (h3 : -2147483648 ≤ u) (h4 : u < 2147483648) (d : Nat) : (¬ ((0 ≤ v ∧ v < A 6 0) ∧ 0 ≤ u ∧ u ≤ 1) → z_ew (d + 2) 170 [.ref 70, .int (iI v), .int (iI u)] S = some (.inl (some (.int (iI 0))), (z_w1 S.1 70 1 (iI 1), S.2))) ∧ ((0 ≤ v ∧ v < A 6 0) ∧ 0 ≤ u ∧ u ≤ 1 → z_ew (d + 2) 170 [.ref 70, .int (iI v), .int (iI u)] S = z_R170 (d + 1) 999999 34 0 [some (.ref 70), some (.int (iI v)), some (.int (iI u)), none] [] (z_w1 S.1 70 1 (nI 0), S.2)) := by
  have hk := hw.k
  have no : ∀ n x1 x2 x3, z_R170 (d + 1) (n + 1) 28 0 [some (.ref 70), x1, x2, x3] [] (z_w1 S.1 70 1 (nI 0), S.2) = some (.inl (some (.int (iI 0))), (z_w1 S.1 70 1 (iI 1), S.2)) := by
    intro n x1 x2 x3
    rw [zq_170_28, zx_111, cli_i, z_w1_w1]
    rfl
  rw [zx_170, m_6 h, m_isI, cli_i, iI_n 1, iI_sub]
  constructor
  · intro q
    by_cases q1 : v < 0 ∨ A 6 0 - ((1 : Nat) : Int) < v
    · rw [if_pos (by rw [if_pos (by rw [iI_n 0, iI_lt h1 h2 (by decide) (by decide), iI_lt (by omega) (by omega) h1 h2]; exact q1)]; rfl), no]
    · rw [if_neg (by rw [if_neg (by rw [iI_n 0, iI_lt h1 h2 (by decide) (by decide), iI_lt (by omega) (by omega) h1 h2]; exact q1)]; exact n10)]
      by_cases q3 : u < 0
      · rw [if_pos (by rw [iI_0, iI_lt h3 h4 (by decide) (by decide)]; exact q3), no]
      · rw [if_neg (by rw [iI_0, iI_lt h3 h4 (by decide) (by decide)]; exact q3), if_neg (by rw [iI_le h3 h4 (by decide) (by decide)]; omega), no]
  · intro q
    rw [if_neg (by rw [if_neg (by rw [iI_n 0, iI_lt h1 h2 (by decide) (by decide), iI_lt (by omega) (by omega) h1 h2]; omega)]; exact n10), if_neg (by rw [iI_0, iI_lt h3 h4 (by decide) (by decide)]; omega), if_pos (by rw [iI_le h3 h4 (by decide) (by decide)]; omega)]
end WHO
theorem o_whose (a c : Int32) : OpW 204 170 [.int a, .int c] := by
  intro S ⟨p, A, hC, hM, hw⟩
  obtain ⟨v, h1, h2, rfl⟩ := iI_of a
  obtain ⟨u, h3, h4, rfl⟩ := iI_of c
  have hk := hw.k
  by_cases q : (0 ≤ v ∧ v < A 6 0) ∧ 0 ≤ u ∧ u ≤ 1
  · obtain ⟨l, rfl⟩ : ∃ l : Nat, v = l := ⟨v.toNat, by omega⟩
    have hl := q.1.2
    have hlr := hw.lr hl
    obtain ⟨b, hb⟩ : ∃ b : Nat, A 32 l = b := ⟨(A 32 l).toNat, by omega⟩
    have k1 : (b : Int) < A 2 0 := by omega
    obtain ⟨j0, hj0, hj1⟩ := rv_ix hw hl hb
    obtain ⟨S1, a1, a2, a3, a4, a5⟩ := c_gather hw hC k1 994
    obtain ⟨S2, b1, b2, b3, b4⟩ := c_ro hw a2 a3 hj0 hj1 993
    have hG2 := a2.f (fun a i h => b3 a i (by omega)) b4
    have e17 : z_ew 998 17 [.ref 24, .int (iI (l : Int))] S = some (.inl (some (.int (iI (b : Int)))), S) := by
      have e4 : iI (l : Int) * nI 4 = iI ((4 * l + 0 : Nat) : Int) := by rw [iI_n, iI_mul]; congr 1; omega
      rw [zx_17 997, e4, ixN (by omega) (by decide), cond_true, tN (by omega), c_32 hC hl, hb]
    have hrev : (rv A b (A 6 0).toNat).reverse.length = (rv A b (A 6 0).toNat).length := List.length_reverse
    refine opW_mk (cm := 89) (o := some (if u = 0 then (myB j0 (wyA A b).reverse : Int) else oo (myB j0 (wyA A b).reverse) 8)) (p' := p) (A' := A) (S1 := S2) (fun _ _ e => w_204 e) (fun _ e => w_204x e) hw hM ?_ (fC_g (fun a i h => (b3 a i (by omega)).trans (a4 a i h)) (b4.trans a5)) hG2.1 hw (fun S3 h => ?_)
    · rw [(c_whE hC hw h1 h2 h3 h4 998).2 q, zq_89_34, hC.p1, cond_false, e17, cli_i, hC.p2, a1, clv_v, b1, cli_i]
      by_cases q3 : u = 0
      · rw [if_pos (by rw [q3]; rfl), zq_89_78, if_pos q3]
        rfl
      · rw [if_neg (by rw [iI_0, iI_eq h3 h4 (by decide) (by decide)]; exact q3), zq_89_74, c_ooE b2 997, cli_i, zq_89_78, if_neg q3]
        rfl
    · have h0 : MI A (z_w1 S3.1 70 1 (nI 0), S3.2) := h.code hw
      obtain ⟨S4, c1, c2, c3, c4⟩ := m_wysA h0 hw k1 999 (by decide)
      have hB := c2.2.1 j0 (by rw [hrev]; exact hj0)
      rw [hj1] at hB
      refine ⟨S4, ?_, (fM_w1 (S := S3) (a := 70) (i := 1) (v := nI 0) (by decide) (by decide)).tr (fM_Y c4), h0.fY hw c4, ?_⟩
      · rw [(m_whE h hw h1 h2 h3 h4 998).2 q, zq_170_34, ixN (show l < 24 by omega) (by decide), cond_true, tN (by omega), m_32 h0 hl, hb, nm1, c1, clv_v, cond_true]
        by_cases q3 : u = 0
        · rw [if_pos (by rw [q3]; rfl), hB.1, if_pos q3]
          rfl
        · rw [if_neg (by rw [iI_0, iI_eq h3 h4 (by decide) (by decide)]; exact q3), if_neg q3, zq_170_56, c2.1]
          have hlW := wy_l (b := b) hw
          by_cases q4 : (wyA A b).reverse = []
          · rw [q4, if_pos (by rfl), zq_170_72, show myB j0 [] = 0 from rfl, show oo 0 8 = -1 by decide]
            rfl
          · have hne : (wyA A b).reverse.length ≠ 0 := fun e => q4 (List.length_eq_zero_iff.mp e)
            have hrl : (wyA A b).reverse.length = (wyA A b).length := List.length_reverse
            rw [if_neg (by rw [iI_0, iI_eq (by omega) (by omega) (by decide) (by decide)]; omega), ixN (show l < 24 by omega) (by decide), cond_true, tN (by omega), hB.2]
            rcases sm_W (by rw [hrev]; exact hj0) _ c3 q4 with ⟨r, hr, e1, e2⟩ | ⟨e1, _, e2⟩
            · have hpos : 0 < 2 ^ r := Nat.pow_pos (by decide)
              have hlt : 2 ^ r < 2 ^ 8 := Nat.pow_lt_pow_right (by decide) hr
              rw [e2] at hB ⊢
              rw [e1, (sm_1 r hr).2.2, if_neg (by rw [iI_0, iI_eq (by omega) (by omega) (by decide) (by decide)]; omega), zq_170_74, iI_n 0, m_shL (by omega) hr hB.2 999 0 r 0 _ _ (by omega) (by omega)]
              rfl
            · rw [e1, if_pos (by rfl), zq_170_72, oo_n 8 e2]
              rfl
      · rw [c4.1 70 1 (by decide) (by decide)]
        dsimp only
        rw [z_w1_r, if_pos ⟨rfl, rfl⟩]
        rfl
  · refine opW_mk (cm := 89) (o := none) (p' := p) (A' := A) (S1 := S) (fun _ _ e => w_204 e) (fun _ e => w_204x e) hw hM ((c_whE hC hw h1 h2 h3 h4 998).1 q) (fC.rf S) hC hw (fun S2 h => mQ_same hw h ?_)
    exact (m_whE h hw h1 h2 h3 h4 998).1 q
