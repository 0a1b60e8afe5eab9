/-! which looks may be a reader's: the class -/
def cK (A : aS) (b N : Nat) : okT := fun r prev l => decide (A 34 l = A 14 r) && (match prev with
  | none => decide (A 35 l - 1 ≤ A 13 r * lhP A b r (A 33 l) N)
  | some o => decide (A 33 o < A 33 l ∧ A 35 o - A 15 r * (bgP A b r (A 33 l) N - bgP A b r (A 33 o) N) ≤ A 35 l ∧ A 35 l ≤ A 35 o + A 13 r * (lhP A b r (A 33 l) N - lhP A b r (A 33 o) N)))
def idx (m : Nat) : List Nat := (List.range 6).filter (fun i => m.testBit i)
def lsP (m : Nat) : Nat → Nat
  | 0 => 0
  | k + 1 => if m.testBit k = true then k else lsP m k
theorem ls_t : ∀ m, m < 64 → m ≠ 0 → lsP m 6 < 6 ∧ m ^^^ 2 ^ lsP m 6 < m ∧ idx m = idx (m ^^^ 2 ^ lsP m 6) ++ [lsP m 6] ∧ m < 2 ^ (lsP m 6 + 1) ∧ 2 ^ lsP m 6 ≤ m := by decide +kernel
theorem idx_n : ∀ n, n < 7 → ∀ m, m < 64 → m < 2 ^ n → idx m = (List.range n).filter (fun i => m.testBit i) := by decide +kernel
theorem xor_t : ∀ u : Nat, u < 64 → ∀ i : Nat, i < 6 → iI (u : Int) ^^^ (nI 1 <<< (iI (i : Int) &&& 31)) = iI ((u ^^^ 2 ^ i : Nat) : Int) := by decide +kernel
theorem xor_u : ∀ u : Nat, u < 64 → ∀ v : Nat, v < 64 → iI (u : Int) ^^^ iI (v : Int) = iI ((u ^^^ v : Nat) : Int) := by decide +kernel
theorem all_t : ∀ n : Nat, n < 7 → (nI 1 <<< (iI (n : Int) &&& 31)) - nI 1 = iI ((2 ^ n - 1 : Nat) : Int) ∧ 2 ^ n - 1 < 64 ∧ 1 ≤ 2 ^ n := by decide +kernel
theorem sel_r : ∀ (row : List Nat) (m : Nat), sel row m = ((List.range row.length).filter (fun i => m.testBit i)).map (fun i => row.getD i 0)
  | [], _ => rfl
  | x :: t, m => by
    have ih := sel_r t (m / 2)
    show (if m % 2 = 1 then x :: sel t (m / 2) else sel t (m / 2)) = ((List.range (t.length + 1)).filter (fun i => m.testBit i)).map (fun i => (x :: t).getD i 0)
    rw [List.range_succ_eq_map, ih]
    have e1 : ∀ l : List Nat, ((l.map Nat.succ).filter (fun i => m.testBit i)).map (fun i => (x :: t).getD i 0) = (l.filter (fun i => (m / 2).testBit i)).map (fun i => t.getD i 0) := by
      intro l
      induction l with
      | nil => rfl
      | cons a l ihl =>
        rw [List.map_cons]
        by_cases h : (m / 2).testBit a = true
        · rw [List.filter_cons_of_pos (by rw [Nat.succ_eq_add_one, Nat.testBit_succ]; exact h), List.filter_cons_of_pos h, List.map_cons, List.map_cons, ihl]
          rfl
        · rw [List.filter_cons_of_neg (by rw [Nat.succ_eq_add_one, Nat.testBit_succ]; exact h), List.filter_cons_of_neg h, ihl]
    have e0 : m.testBit 0 = decide (m % 2 = 1) := Nat.testBit_zero m
    by_cases h : m % 2 = 1
    · rw [if_pos h, List.filter_cons_of_pos (by rw [e0]; simpa using h), List.map_cons, e1]
      rfl
    · rw [if_neg h, List.filter_cons_of_neg (by rw [e0]; simpa using h), e1]
theorem sel_i {row : List Nat} (hn : row.length < 7) {m : Nat} (hm : m < 2 ^ row.length) : sel row m = (idx m).map (fun i => row.getD i 0) := by
  have h6 : 2 ^ row.length ≤ 2 ^ 6 := Nat.pow_le_pow_right (by decide) (by omega)
  rw [sel_r, idx_n row.length hn m (by omega) hm]
def lastO (p : Option Nat) : List Nat → Option Nat
  | [] => p
  | x :: t => lastO (some x) t
theorem lastO_a : ∀ (ys : List Nat) (z : Nat) (p : Option Nat), lastO p (ys ++ [z]) = some z
  | [], _, _ => rfl
  | y :: ys, z, _ => lastO_a ys z (some y)
theorem ft_app (K : okT) (r l : Nat) : ∀ (xs : List Nat) (p : Option Nat), ft K r p (xs ++ [l]) = (ft K r p xs && K r (lastO p xs) l)
  | [], p => by
    show (K r p l && true) = (true && K r p l)
    rw [Bool.and_true, Bool.true_and]
  | x :: xs, p => by
    show (K r p x && ft K r (some x) (xs ++ [l])) = ((K r p x && ft K r (some x) xs) && K r (lastO (some x) xs) l)
    rw [ft_app K r l xs (some x), Bool.and_assoc]
theorem ft_l (K : okT) (r : Nat) {row : List Nat} (hn : row.length < 7) {m : Nat} (hm : m < 2 ^ row.length) (h0 : m ≠ 0) : ft K r none (sel row m) = (ft K r none (sel row (m ^^^ 2 ^ lsP m 6)) && K r (if m ^^^ 2 ^ lsP m 6 = 0 then none else some (row.getD (lsP (m ^^^ 2 ^ lsP m 6) 6) 0)) (row.getD (lsP m 6) 0)) := by
  have h6 : 2 ^ row.length ≤ 2 ^ 6 := Nat.pow_le_pow_right (by decide) (by omega)
  obtain ⟨t1, t2, t3, -⟩ := ls_t m (by omega) h0
  rw [sel_i hn hm, t3, List.map_append, List.map_cons, List.map_nil, ft_app, ← sel_i hn (by omega)]
  congr 2
  by_cases e : m ^^^ 2 ^ lsP m 6 = 0
  · rw [if_pos e, e]
    have : sel row 0 = [] := by rw [sel_i hn (Nat.pow_pos (by decide))]; rfl
    rw [this]
    rfl
  · rw [if_neg e, sel_i hn (by omega), (ls_t _ (by omega) e).2.2.1, List.map_append, List.map_cons, List.map_nil, lastO_a]
section FIT
variable {p : Nat} {A : aS} {S : z_St}
theorem lh_r (hw : wf A) {b r : Nat} {t : Int} : ∀ i : Nat, (i : Int) ≤ A 4 0 → 0 ≤ lhP A b r t i ∧ lhP A b r t i ≤ 24 * i ∧ 0 ≤ bgP A b r t i ∧ bgP A b r t i ≤ i
  | 0, _ => by show (0 : Int) ≤ 0 ∧ (0 : Int) ≤ 24 * ((0 : Nat) : Int) ∧ (0 : Int) ≤ 0 ∧ (0 : Int) ≤ ((0 : Nat) : Int); omega
  | i + 1, hi => by
    have ih := lh_r hw (b := b) (r := r) (t := t) i (by omega)
    have hrow := hw.L.2.2.2.2.2.2.2.2.2.1 i (by omega)
    show 0 ≤ lhP A b r t i + (if A 26 i = r ∧ A 27 i = b ∧ A 28 i < t then mnI (A 29 i) (t - A 28 i) else 0) ∧ lhP A b r t i + (if A 26 i = r ∧ A 27 i = b ∧ A 28 i < t then mnI (A 29 i) (t - A 28 i) else 0) ≤ 24 * ((i + 1 : Nat) : Int) ∧ 0 ≤ bgP A b r t i + (if A 26 i = r ∧ A 27 i = b ∧ A 28 i < t then 1 else 0) ∧ bgP A b r t i + (if A 26 i = r ∧ A 27 i = b ∧ A 28 i < t then 1 else 0) ≤ ((i + 1 : Nat) : Int)
    by_cases q : A 26 i = r ∧ A 27 i = b ∧ A 28 i < t
    · rw [if_pos q, if_pos q]
      have := mnI_or (A 29 i) (t - A 28 i)
      omega
    · rw [if_neg q, if_neg q]
      omega
theorem c_last {m : Nat} (hm : m < 64) (d z : Nat) : ∀ (k i n : Nat), i + k = 6 → 2 * k + 2 ≤ n → z_R53 d n 4 z [some (.int (iI (m : Int))), some (.int (iI (lsP m i : Int))), some (.int (iI (i : Int)))] [] S = some (.inl (some (.int (iI (lsP m 6 : Int)))), S) := by
  intro k
  induction k with
  | zero =>
    intro i n hi hn
    obtain ⟨n, rfl⟩ : ∃ m, n = m + 2 := ⟨n - 2, by omega⟩
    have e : i = 6 := by omega
    subst e
    rw [zq_53_4, iI_n 6, if_pos (by rw [iI_le (by decide) (by decide) (by decide) (by decide)]; decide), zq_53_27]
  | succ k ih =>
    intro i n hi hn
    obtain ⟨n, rfl⟩ : ∃ m, n = m + 2 := ⟨n - 2, by omega⟩
    have e2 : (i : Int) + ((1 : Nat) : Int) = ((i + 1 : Nat) : Int) := by omega
    have h3 := ih (i + 1) n (by omega) (by omega)
    have e3 : lsP m (i + 1) = if m.testBit i = true then i else lsP m i := rfl
    rw [e3] at h3
    rw [zq_53_4, iI_n 6, if_neg (by rw [iI_le (by decide) (by decide) (by omega) (by omega)]; omega), bit_t m (by omega) i (by omega)]
    by_cases q : m.testBit i = true
    · rw [if_pos q] at h3
      rw [if_pos (b10.2 q), zq_53_21, iI_n 1, iI_add, e2]
      exact h3
    · rw [if_neg q] at h3
      rw [if_neg (fun e => q (b10.1 e)), zq_53_21, iI_n 1, iI_add, e2]
      exact h3
theorem c_lastE {m : Nat} (hm : m < 64) (d : Nat) : z_ew (d + 1) 53 [.int (iI (m : Int))] S = some (.inl (some (.int (iI (lsP m 6 : Int)))), S) := by
  rw [zx_53]
  exact c_last hm d 0 6 0 999999 (by omega) (by omega)
theorem Gr.p1 {rev : List Nat} (h : Gr A p rev S) (hC : CI p A S) : decide (S.1 55 0 = -1) = false ∧ (S.1 55 0).toNatClampNeg = p := by
  have hp := hC.1
  rw [h.1]
  refine ⟨decide_eq_false (by rw [iI_m1, iI_eq (by omega) (by omega) (by decide) (by decide)]; omega), tN (by omega)⟩
/-- what gather leaves -/
def GG (A : aS) (p b N : Nat) (rev : List Nat) (S : z_St) : Prop := CI p A S ∧ Gr A p rev S ∧ Qh rev.length S (fun r j => lhP A b r (A 33 (rev.reverse.getD j 0)) N) (fun r j => bgP A b r (A 33 (rev.reverse.getD j 0)) N)
theorem GG.f {b N : Nat} {rev : List Nat} {S' : z_St} (h : GG A p b N rev S) (hf : ∀ a i, a < 62 ∨ 64 ≤ a → S'.1 a i = S.1 a i) (h2 : S'.2 = S.2) : GG A p b N rev S' := by
  obtain ⟨hC, ⟨a1, a2, a3, a4, a5, a6⟩, hQ⟩ := h
  refine ⟨hC.sc (fun a ha i => hf a i (by omega)) h2, ⟨by rw [hf 55 0 (by omega)]; exact a1, by rw [hf 55 1 (by omega)]; exact a2, stk_up _ a3 (fun i _ => hf 56 i (by omega)), stk_up _ a4 (fun i _ => hf 57 i (by omega)), stk_up _ a5 (fun i _ => hf 58 i (by omega)), stk_up _ a6 (fun i _ => hf 59 i (by omega))⟩, fun r j hr hj => ?_⟩
  rw [hf 60 _ (by omega), hf 61 _ (by omega)]
  exact hQ r j hr hj
def oks (A : aS) (rev : List Nat) : Prop := rev.length < 7 ∧ ∀ y, y ∈ rev → (0 ≤ A 33 y ∧ A 33 y ≤ 8759) ∧ (0 ≤ A 34 y ∧ A 34 y ≤ 3) ∧ 1 ≤ A 35 y ∧ A 35 y ≤ 401
theorem oks.g {rev : List Nat} (h : oks A rev) {j : Nat} (hj : j < rev.length) : (0 ≤ A 33 (rev.reverse.getD j 0) ∧ A 33 (rev.reverse.getD j 0) ≤ 8759) ∧ (0 ≤ A 34 (rev.reverse.getD j 0) ∧ A 34 (rev.reverse.getD j 0) ≤ 3) ∧ 1 ≤ A 35 (rev.reverse.getD j 0) ∧ A 35 (rev.reverse.getD j 0) ≤ 401 := by
  refine h.2 _ ?_
  have hj2 : j < rev.reverse.length := by rw [List.length_reverse]; exact hj
  rw [List.getD_eq_getElem?_getD, List.getElem?_eq_getElem hj2]
  exact List.mem_reverse.1 (List.getElem_mem hj2)
theorem mul_b {a b x y : Int} (ha : 0 ≤ a) (ha2 : a ≤ x) (hb : -y ≤ b) (hb2 : b ≤ y) (hy : 0 ≤ y) : -(x * y) ≤ a * b ∧ a * b ≤ x * y := by
  have h1 : a * b ≤ a * y := Int.mul_le_mul_of_nonneg_left hb2 ha
  have h2 : a * y ≤ x * y := Int.mul_le_mul_of_nonneg_right ha2 hy
  have h3 : a * (-y) ≤ a * b := Int.mul_le_mul_of_nonneg_left hb ha
  rw [Int.mul_neg] at h3
  omega
theorem c_mbf {b N r j : Nat} {rev : List Nat} (hw : wf A) (h : GG A p b N rev S) (ho : oks A rev) (hN : A 4 0 = N) (hr : (r : Int) < A 3 0) (hj : j < rev.length) (d : Nat) : z_ew (d + 1) 51 [.ref 55, .int (iI (r : Int)), .int (iI (j : Int))] S = some (.inl (some (.int (iI (if A 35 (rev.reverse.getD j 0) - 1 ≤ A 13 r * lhP A b r (A 33 (rev.reverse.getD j 0)) N then 1 else 0)))), S) := by
  obtain ⟨hC, hG, hQ⟩ := h
  have hr2 := hw.r
  have hl := hw.l
  have hrr := hw.rr hr
  have hg := ho.g hj
  have h6 := ho.1
  have hlh := lh_r hw (b := b) (r := r) (t := A 33 (rev.reverse.getD j 0)) N (by omega)
  have hmb := mul_b (a := A 13 r) (b := lhP A b r (A 33 (rev.reverse.getD j 0)) N) (x := 60) (y := 4800) (by omega) (by omega) (by omega) (by omega) (by decide)
  obtain ⟨g1, g2⟩ := hG.p1 hC
  have e6 : iI (r : Int) * nI 6 + iI (j : Int) = iI ((r * 6 + j : Nat) : Int) := by rw [iI_n, iI_mul, iI_add]; congr 1
  rw [zx_51, ixN (by omega) (by decide), cond_true, g1, cond_false, g2, hC.p3, cond_true, hC.px (by decide) (by decide) hC.pl.2.2.1 (show r < 8 by omega) (by decide), cond_true, e6, ixN (by omega) (by decide), cond_true, tN (by omega), tN (by omega), tN (by omega), c_13 hC hr, (hQ r j (by omega) hj).1, stk_get rev hG.2.2.2.2.2 j hj, iI_mul]
  show (if iI (A 13 r * lhP A b r (A 33 (rev.reverse.getD j 0)) N) < iI (A 35 (rev.reverse.getD j 0)) - nI 1 then _ else _) = _
  rw [iI_n, iI_sub]
  by_cases q : A 35 (rev.reverse.getD j 0) - 1 ≤ A 13 r * lhP A b r (A 33 (rev.reverse.getD j 0)) N
  · rw [if_neg (by rw [iI_lt (by omega) (by omega) (by omega) (by omega)]; omega), zq_51_37, ← iI_n 1, rbn1, cond_true, if_pos q]
    rfl
  · rw [if_pos (by rw [iI_lt (by omega) (by omega) (by omega) (by omega)]; omega), zq_51_36, zq_51_37, rbn0, cond_true, if_neg q]
    rfl
theorem c_mfl {b N r i j : Nat} {rev : List Nat} (hw : wf A) (h : GG A p b N rev S) (ho : oks A rev) (hN : A 4 0 = N) (hr : (r : Int) < A 3 0) (hi : i < rev.length) (hj : j < rev.length) (d : Nat) : z_ew (d + 1) 52 [.ref 55, .int (iI (r : Int)), .int (iI (i : Int)), .int (iI (j : Int))] S = some (.inl (some (.int (iI (if A 33 (rev.reverse.getD i 0) < A 33 (rev.reverse.getD j 0) ∧ A 35 (rev.reverse.getD i 0) - A 15 r * (bgP A b r (A 33 (rev.reverse.getD j 0)) N - bgP A b r (A 33 (rev.reverse.getD i 0)) N) ≤ A 35 (rev.reverse.getD j 0) ∧ A 35 (rev.reverse.getD j 0) ≤ A 35 (rev.reverse.getD i 0) + A 13 r * (lhP A b r (A 33 (rev.reverse.getD j 0)) N - lhP A b r (A 33 (rev.reverse.getD i 0)) N) then 1 else 0)))), S) := by
  obtain ⟨hC, hG, hQ⟩ := h
  have hr2 := hw.r
  have hl := hw.l
  have hrr := hw.rr hr
  have hgi := ho.g hi
  have hgj := ho.g hj
  have h6 := ho.1
  have li := lh_r hw (b := b) (r := r) (t := A 33 (rev.reverse.getD i 0)) N (by omega)
  have lj := lh_r hw (b := b) (r := r) (t := A 33 (rev.reverse.getD j 0)) N (by omega)
  have m1 := mul_b (a := A 13 r) (b := lhP A b r (A 33 (rev.reverse.getD j 0)) N - lhP A b r (A 33 (rev.reverse.getD i 0)) N) (x := 60) (y := 4800) (by omega) (by omega) (by omega) (by omega) (by decide)
  have m2 := mul_b (a := A 15 r) (b := bgP A b r (A 33 (rev.reverse.getD j 0)) N - bgP A b r (A 33 (rev.reverse.getD i 0)) N) (x := 20) (y := 200) (by omega) (by omega) (by omega) (by omega) (by decide)
  obtain ⟨g1, g2⟩ := hG.p1 hC
  have e6 : ∀ j : Nat, iI (r : Int) * nI 6 + iI (j : Int) = iI ((r * 6 + j : Nat) : Int) := fun j => by rw [iI_n, iI_mul, iI_add]; congr 1
  have b1 : S.1 60 (r * 6 + j) = iI (lhP A b r (A 33 (rev.reverse.getD j 0)) N) := (hQ r j (by omega) hj).1
  have b2 : S.1 61 (r * 6 + j) = iI (bgP A b r (A 33 (rev.reverse.getD j 0)) N) := (hQ r j (by omega) hj).2
  have b3 : S.1 60 (r * 6 + i) = iI (lhP A b r (A 33 (rev.reverse.getD i 0)) N) := (hQ r i (by omega) hi).1
  have b4 : S.1 61 (r * 6 + i) = iI (bgP A b r (A 33 (rev.reverse.getD i 0)) N) := (hQ r i (by omega) hi).2
  have a1 : S.1 59 i = iI (A 35 (rev.reverse.getD i 0)) := stk_get rev hG.2.2.2.2.2 i hi
  have a2 : S.1 59 j = iI (A 35 (rev.reverse.getD j 0)) := stk_get rev hG.2.2.2.2.2 j hj
  have a3 : S.1 57 i = iI (A 33 (rev.reverse.getD i 0)) := stk_get rev hG.2.2.2.1 i hi
  have a4 : S.1 57 j = iI (A 33 (rev.reverse.getD j 0)) := stk_get rev hG.2.2.2.1 j hj
  have no : ∀ n x0 x1 x2 x3 x4 x5 x6 x7, z_R52 d (n + 2) 125 0 [x0, x1, x2, x3, x4, x5, x6, x7] [] S = some (.inl (some (.int (iI 0))), S) := by
    intro n x0 x1 x2 x3 x4 x5 x6 x7
    rw [zq_52_125, zq_52_126, rbn0, cond_true]
    rfl
  rw [zx_52, ixN (show i < 6 by omega) (by decide), cond_true, g1, cond_false, g2, hC.p3, cond_true, hC.px (by decide) (by decide) hC.pl.2.2.2.2.1 (show r < 8 by omega) (by decide), cond_true, e6, e6, ixN (show r * 6 + j < 48 by omega) (by decide), cond_true, ixN (show r * 6 + i < 48 by omega) (by decide), cond_true, cond_true, cond_false, cond_true, hC.px (by decide) (by decide) hC.pl.2.2.1 (show r < 8 by omega) (by decide), cond_true, cond_true, cond_true, cond_true, ixN (show j < 6 by omega) (by decide), cond_true, tN (show i < 2147483648 by omega), tN (show j < 2147483648 by omega), tN (show r < 2147483648 by omega), tN (show r * 6 + j < 2147483648 by omega), tN (show r * 6 + i < 2147483648 by omega), c_13 hC hr, c_15 hC hr, b1, b2, b3, b4, a1, a2, a3, a4, iI_sub, iI_sub, iI_mul, iI_mul, iI_sub, iI_add]
  by_cases q1 : A 33 (rev.reverse.getD i 0) < A 33 (rev.reverse.getD j 0)
  · rw [if_neg (by rw [iI_le (by omega) (by omega) (by omega) (by omega)]; omega), cond_true]
    by_cases q2 : A 35 (rev.reverse.getD i 0) - A 15 r * (bgP A b r (A 33 (rev.reverse.getD j 0)) N - bgP A b r (A 33 (rev.reverse.getD i 0)) N) ≤ A 35 (rev.reverse.getD j 0)
    · rw [if_neg (by rw [iI_lt (by omega) (by omega) (by omega) (by omega)]; omega), cond_true]
      by_cases q3 : A 35 (rev.reverse.getD j 0) ≤ A 35 (rev.reverse.getD i 0) + A 13 r * (lhP A b r (A 33 (rev.reverse.getD j 0)) N - lhP A b r (A 33 (rev.reverse.getD i 0)) N)
      · rw [if_neg (by rw [iI_lt (by omega) (by omega) (by omega) (by omega)]; omega), zq_52_126, rbn1, cond_true, if_pos ⟨q1, q2, q3⟩]
        rfl
      · rw [if_pos (by rw [iI_lt (by omega) (by omega) (by omega) (by omega)]; omega), no 999997, if_neg (fun e => q3 e.2.2)]
    · rw [if_pos (by rw [iI_lt (by omega) (by omega) (by omega) (by omega)]; omega), no 999997, if_neg (fun e => q2 e.2.1)]
  · rw [if_pos (by rw [iI_le (by omega) (by omega) (by omega) (by omega)]; omega), no 999997, if_neg (fun e => q1 e.1)]
end FIT
