/-! what a look's readers may be: the class -/
theorem sln_x : ∀ (row : List Nat) (m : Nat), m < 2 ^ row.length → sel row ((2 ^ row.length - 1) ^^^ m) = sln row m
  | [], m, _ => rfl
  | x :: t, m, hm => by
    have h1 : 0 < 2 ^ t.length := Nat.pow_pos (by decide)
    rw [List.length_cons, Nat.pow_succ] at hm
    have ih := sln_x t (m / 2) (by omega)
    have e2 : ((2 ^ (x :: t).length - 1) ^^^ m) / 2 = (2 ^ t.length - 1) ^^^ (m / 2) := by
      rw [Nat.xor_div_two, List.length_cons, Nat.pow_succ]
      congr 1
      omega
    have e1 : ((2 ^ (x :: t).length - 1) ^^^ m) % 2 = 1 ↔ ¬ m % 2 = 1 := by
      rw [Nat.xor_mod_two_eq_one, List.length_cons, Nat.pow_succ]
      omega
    show (if ((2 ^ (x :: t).length - 1) ^^^ m) % 2 = 1 then x :: sel t (((2 ^ (x :: t).length - 1) ^^^ m) / 2) else sel t (((2 ^ (x :: t).length - 1) ^^^ m) / 2)) = if m % 2 = 1 then sln t (m / 2) else x :: sln t (m / 2)
    rw [e2, ih]
    by_cases q : m % 2 = 1
    · rw [if_neg (fun z => e1.mp z q), if_pos q]
    · rw [if_pos (e1.mpr q), if_neg q]
theorem sel_len : ∀ (row : List Nat) (m : Nat), (sel row m).length ≤ row.length
  | [], _ => Nat.le_refl _
  | x :: t, m => by
    have ih := sel_len t (m / 2)
    show (if m % 2 = 1 then x :: sel t (m / 2) else sel t (m / 2)).length ≤ t.length + 1
    split
    · rw [List.length_cons]; omega
    · omega
theorem mo_bit {r : Nat} : ∀ (w : List Nat) (j : Nat), j < w.length → ((mo r w).testBit j = true ↔ w.getD j 0 = r)
  | [], j, h => absurd h (Nat.not_lt_zero j)
  | a :: w, 0, _ => by
    show ((if a = r then 1 else 0) + 2 * mo r w).testBit 0 = true ↔ a = r
    rw [Nat.testBit_zero, decide_eq_true_iff]
    split <;> rename_i q
    · exact ⟨fun _ => q, fun _ => by omega⟩
    · exact ⟨fun e => by omega, fun e => absurd e q⟩
  | a :: w, j + 1, h => by
    have h : j + 1 < w.length + 1 := h
    have ih := mo_bit (r := r) w j (by omega)
    show ((if a = r then 1 else 0) + 2 * mo r w).testBit (j + 1) = true ↔ w.getD j 0 = r
    rw [Nat.testBit_succ, show ((if a = r then 1 else 0) + 2 * mo r w) / 2 = mo r w by split <;> omega]
    exact ih
theorem rsL_f (r k : Nat) : rsL (r : Int) k = (List.range k).filter (fun x => !(decide (x = r))) := by
  unfold rsL
  refine List.filter_congr (fun x _ => ?_)
  by_cases e : x = r
  · rw [decide_eq_true e, decide_eq_true (by omega)]
  · rw [decide_eq_false e, decide_eq_false (by omega)]
/-- a reader's part in some way -/
def hpB (A : aS) (b r m : Nat) : Prop := ∃ w, w ∈ wyA A b ∧ mo r w = m
section HAP
variable {p : Nat} {A : aS} {S : z_St}
theorem c_hap {b r m : Nat} (hw : wf A) (hG : GG A p b (A 4 0).toNat (rv A b (A 6 0).toNat) S) (hF : F62 A b (A 4 0).toNat (rv A b (A 6 0).toNat) S (A 3 0).toNat 0) (hN : N63 A b (A 4 0).toNat (rv A b (A 6 0).toNat) (rsL (r : Int) (A 3 0).toNat) S) (hr : r < (A 3 0).toNat) (hm : m < 2 ^ (rv A b (A 6 0).toNat).length) (d : Nat) : ∃ v, z_ew (d + 2) 56 [.ref 55, .int (iI (r : Int)), .int (iI (m : Int))] S = some (.inl (some (.int (iI v))), S) ∧ ((v = 1 ∧ hpB A b r m) ∨ (v = 0 ∧ ¬ hpB A b r m)) := by
  have hr2 := hw.r
  have h7 := (oks_rv hw (b := b)).1
  have h6 : 2 ^ (rv A b (A 6 0).toNat).length ≤ 2 ^ 6 := Nat.pow_le_pow_right (by decide) (by omega)
  have h64 := (all_t _ h7).2
  have e6 : iI (r : Int) * nI 64 + iI (m : Int) = iI ((r * 64 + m : Nat) : Int) := by rw [iI_n, iI_mul, iI_add]; congr 1
  have hlen : (rv A b (A 6 0).toNat).reverse.length = (rv A b (A 6 0).toNat).length := List.length_reverse
  have hx : (2 ^ (rv A b (A 6 0).toNat).length - 1) ^^^ m < 2 ^ (rv A b (A 6 0).toNat).length := Nat.xor_lt_two_pow (by omega) hm
  have hh := hap (cK A b (A 4 0).toNat) (List.range (A 3 0).toNat) (List.mem_range.mpr hr) (rv A b (A 6 0).toNat).reverse s0 m (by rw [hlen]; exact hm)
  have hs := sln_x (rv A b (A 6 0).toNat).reverse m (by rw [hlen]; exact hm)
  rw [hlen] at hs
  have hv := hN _ hx
  have hv2 : nM A b (A 4 0).toNat (rv A b (A 6 0).toNat) (rsL (r : Int) (A 3 0).toNat) ((2 ^ (rv A b (A 6 0).toNat).length - 1) ^^^ m) = nw (cK A b (A 4 0).toNat) ((List.range (A 3 0).toNat).filter (fun x => !(decide (x = r)))) (sln (rv A b (A 6 0).toNat).reverse m) s0 := by
    unfold nM
    rw [hs, rsL_f]
  have hb : nM A b (A 4 0).toNat (rv A b (A 6 0).toNat) (rsL (r : Int) (A 3 0).toNat) ((2 ^ (rv A b (A 6 0).toNat).length - 1) ^^^ m) ≤ 262144 := by
    refine Nat.le_trans (nw_le _ _ _ _) ?_
    have g1 : (rsL (r : Int) (A 3 0).toNat).length ≤ 8 := by
      have := List.length_filter_le (fun x : Nat => !(decide ((x : Int) = (r : Int)))) (List.range (A 3 0).toNat)
      rw [List.length_range] at this
      exact Nat.le_trans this (by omega)
    have g2 := sel_len (rv A b (A 6 0).toNat).reverse ((2 ^ (rv A b (A 6 0).toNat).length - 1) ^^^ m)
    rw [hlen] at g2
    exact Nat.le_trans (Nat.pow_le_pow_left g1 _) (Nat.le_trans (Nat.pow_le_pow_right (by decide) (show _ ≤ 6 by omega)) (by decide))
  have hf : S.1 62 (r * 64 + m) = bI (fT A b (A 4 0).toNat (rv A b (A 6 0).toNat) r m) := hF.1 r m hr hm
  have yes : ∀ n x0 x1 x2, z_R56 (d + 1) (n + 1) 33 0 [x0, x1, x2] [.int (nI 1)] S = some (.inl (some (.int (iI 1))), S) := by
    intro n x0 x1 x2
    rw [zq_56_33, rbn1, cond_true]
    rfl
  have no : ∀ n x0 x1 x2, z_R56 (d + 1) (n + 2) 32 0 [x0, x1, x2] [] S = some (.inl (some (.int (iI 0))), S) := by
    intro n x0 x1 x2
    rw [zq_56_32, zq_56_33, rbn0, cond_true]
    rfl
  rw [hv2] at hv hb
  by_cases q1 : fT A b (A 4 0).toNat (rv A b (A 6 0).toNat) r m = true
  · by_cases q2 : 0 < nw (cK A b (A 4 0).toNat) ((List.range (A 3 0).toNat).filter (fun x => !(decide (x = r)))) (sln (rv A b (A 6 0).toNat).reverse m) s0
    · refine ⟨1, ?_, Or.inl ⟨rfl, hh.mp ⟨q1, q2⟩⟩⟩
      rw [zx_56, e6, ixN (by omega) (by decide), cond_true, tN (by omega), hf, q1, if_neg (by decide +kernel), c_all hG h7 d, cli_i, xor_u _ h64.1 _ (by omega), ixN (show (2 ^ (rv A b (A 6 0).toNat).length - 1) ^^^ m < 64 by omega) (by decide), cond_true, tN (by omega), hv, iI_0, if_neg (by rw [iI_le (by omega) (by omega) (by decide) (by decide)]; omega), yes 999998]
    · refine ⟨0, ?_, Or.inr ⟨rfl, fun e => q2 (hh.mpr e).2⟩⟩
      rw [zx_56, e6, ixN (by omega) (by decide), cond_true, tN (by omega), hf, q1, if_neg (by decide +kernel), c_all hG h7 d, cli_i, xor_u _ h64.1 _ (by omega), ixN (show (2 ^ (rv A b (A 6 0).toNat).length - 1) ^^^ m < 64 by omega) (by decide), cond_true, tN (by omega), hv, iI_0, if_pos (by rw [iI_le (by omega) (by omega) (by decide) (by decide)]; omega), no 999997]
  · refine ⟨0, ?_, Or.inr ⟨rfl, fun e => q1 (hh.mpr e).1⟩⟩
    rw [zx_56, e6, ixN (by omega) (by decide), cond_true, tN (by omega), hf, Bool.eq_false_iff.mpr q1, if_pos (by rfl), no 999997]
theorem c_hds {l m j0 : Nat} {rev : List Nat} (hG : Gr A p rev S) (h7 : rev.length < 7) (hm : m < 64) (hj0 : j0 < rev.length) (hl : rev.reverse.getD j0 0 = l) (h24 : ∀ y, y ∈ rev → y < 24) (inj : ∀ i j, i < rev.length → j < rev.length → rev.reverse.getD i 0 = rev.reverse.getD j 0 → i = j) (d z : Nat) : ∀ (k i n : Nat), i + k = rev.length → 3 * k + 2 ≤ n → z_R58 d n 5 z [some (.ref 55), some (.int (iI (m : Int))), some (.int (iI (l : Int))), some (.int (bI (decide (j0 < i) && m.testBit j0))), some (.int (iI (i : Int)))] [] S = some (.inl (some (.int (bI (m.testBit j0)))), S) := by
  have g24 : ∀ i, i < rev.length → rev.reverse.getD i 0 < 24 := by
    intro i hi
    rw [List.getD_eq_getElem?_getD, List.getElem?_eq_getElem (by rw [List.length_reverse]; exact hi)]
    exact h24 _ (List.mem_reverse.mp (List.getElem_mem _))
  have rbI : ∀ x, z_rb (some .boolean) (bI x) = true := by
    intro x
    cases x
    · exact rbn0
    · exact rbn1
  intro k
  induction k with
  | zero =>
    intro i n hi hn
    obtain ⟨n, rfl⟩ : ∃ m, n = m + 2 := ⟨n - 2, by omega⟩
    rw [zq_58_5, hG.2.1, if_pos (by rw [iI_le (by omega) (by omega) (by omega) (by omega)]; omega), zq_58_51, rbI, cond_true, decide_eq_true (show j0 < i by omega), Bool.true_and]
  | succ k ih =>
    intro i n hi hn
    obtain ⟨n, rfl⟩ : ∃ m, n = m + 3 := ⟨n - 3, by omega⟩
    have e2 : (i : Int) + ((1 : Nat) : Int) = ((i + 1 : Nat) : Int) := by omega
    have go := ih (i + 1) n (by omega) (by omega)
    have gi := g24 i (by omega)
    have gl := g24 j0 hj0
    have ej : rev.reverse.getD i 0 = l ↔ i = j0 := ⟨fun e => inj i j0 (by omega) hj0 (e.trans hl.symm), fun e => by rw [e]; exact hl⟩
    rw [zq_58_5, hG.2.1, if_neg (by rw [iI_le (by omega) (by omega) (by omega) (by omega)]; omega)]
    by_cases q : (decide (j0 < i) && m.testBit j0) = true
    · have hq := Bool.and_eq_true_iff.mp q
      rw [q, if_neg (by decide +kernel), zq_58_39, zq_58_44, iI_n 1, iI_add, e2]
      rw [decide_eq_true (show j0 < i + 1 by have := of_decide_eq_true hq.1; omega), hq.2] at go
      rw [hq.2]
      exact go
    · rw [Bool.eq_false_iff.mpr q, if_pos (by rfl), ixN (show i < 6 by omega) (by decide), cond_true, tN (by omega), stk_get rev hG.2.2.1 i (by omega)]
      show (if iI ((rev.reverse.getD i 0 : Nat) : Int) = iI (l : Int) then _ else _) = _
      by_cases q2 : i = j0
      · subst q2
        rw [if_pos (by rw [hl])]
        rw [decide_eq_true (show i < i + 1 by omega), Bool.true_and] at go
        rw [show (iI ((m : Nat) : Int) >>> (iI ((i : Nat) : Int) &&& 31)) &&& nI 1 = iI (if m.testBit i = true then 1 else 0) from bit_t m (by omega) i (by omega)]
        by_cases q3 : m.testBit i = true
        · rw [if_pos (by rw [b10]; exact q3), zq_58_39, zq_58_44, iI_n 1, iI_add, e2]
          rw [q3] at go ⊢
          exact go
        · rw [if_neg (by rw [b10]; exact q3), zq_58_43, zq_58_44, iI_n 1, iI_add, e2]
          rw [Bool.eq_false_iff.mpr q3] at go ⊢
          exact go
      · rw [if_neg (by rw [iI_eq (by omega) (by omega) (by omega) (by omega)]; omega), zq_58_43, zq_58_44, iI_n 1, iI_add, e2]
        have eb : (decide (j0 < i + 1) && m.testBit j0) = false := by
          rw [← Bool.eq_false_iff.mpr q]
          congr 1
          exact decide_eq_decide.mpr (by omega)
        rw [eb] at go
        exact go
end HAP
