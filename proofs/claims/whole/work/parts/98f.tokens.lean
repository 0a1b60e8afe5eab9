/-! tokens of a text: pure, and the class's -/
def sb (v : Int) : Int := if 128 ≤ v then v - 256 else v
def tkL (v : Int) : Bool := decide (97 ≤ v ∧ v ≤ 122)
def tkD (v : Int) : Bool := decide (48 ≤ v ∧ v ≤ 57)
def tkS (v : Int) : Bool := decide (v = 59 ∨ (40 ≤ v ∧ v ≤ 43) ∨ v = 45 ∨ v = 47 ∨ v = 60 ∨ v = 61)
def tkB (v : Int) : Bool := decide (v = 32 ∨ v = 10)
def rnF (P : Int → Bool) (T : Nat → Int) : Nat → Nat → Nat
  | 0, q => q
  | k + 1, q => if P (T q) = true then rnF P T k (q + 1) else q
theorem rnF_s {P : Int → Bool} {T : Nat → Int} {k q : Nat} : rnF P T (k + 1) q = if P (T q) = true then rnF P T k (q + 1) else q := rfl
theorem rnF_r {P : Int → Bool} {T : Nat → Int} : ∀ k q, q ≤ rnF P T k q ∧ rnF P T k q ≤ q + k
  | 0, q => ⟨Nat.le_refl _, Nat.le_refl _⟩
  | k + 1, q => by
    have ih := rnF_r (P := P) (T := T) k (q + 1)
    rw [rnF_s]
    split <;> omega
def rn (P : Int → Bool) (T : Nat → Int) (n q : Nat) : Nat := rnF P T (n - q) q
theorem rn_r {P : Int → Bool} {T : Nat → Int} {n q : Nat} (h : q ≤ n) : q ≤ rn P T n q ∧ rn P T n q ≤ n := by
  have := rnF_r (P := P) (T := T) (n - q) q
  unfold rn
  omega
/-- what the digits from q on count, held at c -/
def cvF (c : Int) (T : Nat → Int) : Nat → Nat → Int → Int
  | 0, _, v => v
  | k + 1, q, v => if tkD (T q) = true then cvF c T k (q + 1) (mnI c (v * 10 + T q - 48)) else v
theorem cvF_s {c : Int} {T : Nat → Int} {k q : Nat} {v : Int} : cvF c T (k + 1) q v = if tkD (T q) = true then cvF c T k (q + 1) (mnI c (v * 10 + T q - 48)) else v := rfl
section TKN
variable {S : z_St}
theorem sb_r {v : Int} (h : 0 ≤ v ∧ v ≤ 255) : -128 ≤ sb v ∧ sb v ≤ 127 := by
  unfold sb
  split <;> omega
theorem c_isL {v : Int} (h : 0 ≤ v ∧ v ≤ 255) (d : Nat) : z_ew (d + 1) 67 [.int (iI (sb v))] S = some (.inl (some (.int (bI (tkL v)))), S) := by
  have hs := sb_r h
  have hq : tkL v = decide (97 ≤ sb v ∧ sb v ≤ 122) := by
    unfold tkL sb
    refine decide_eq_decide.mpr ?_
    split <;> omega
  rw [zx_67, iI_n 97, iI_n 122, hq]
  by_cases q1 : sb v < 97
  · rw [if_pos (by rw [iI_lt (by omega) (by omega) (by decide) (by decide)]; exact q1), zq_67_16, zq_67_17, rbn0, cond_true, decide_eq_false (by omega)]
    rfl
  · rw [if_neg (by rw [iI_lt (by omega) (by omega) (by decide) (by decide)]; exact q1)]
    by_cases q2 : 122 < sb v
    · rw [if_pos (by rw [iI_lt (by decide) (by decide) (by omega) (by omega)]; exact q2), zq_67_16, zq_67_17, rbn0, cond_true, decide_eq_false (by omega)]
      rfl
    · rw [if_neg (by rw [iI_lt (by decide) (by decide) (by omega) (by omega)]; exact q2), zq_67_17, rbn1, cond_true, decide_eq_true (by omega)]
      rfl
theorem c_isD {v : Int} (h : 0 ≤ v ∧ v ≤ 255) (d : Nat) : z_ew (d + 1) 68 [.int (iI (sb v))] S = some (.inl (some (.int (bI (tkD v)))), S) := by
  have hs := sb_r h
  have hq : tkD v = decide (48 ≤ sb v ∧ sb v ≤ 57) := by
    unfold tkD sb
    refine decide_eq_decide.mpr ?_
    split <;> omega
  rw [zx_68, iI_n 48, iI_n 57, hq]
  by_cases q1 : sb v < 48
  · rw [if_pos (by rw [iI_lt (by omega) (by omega) (by decide) (by decide)]; exact q1), zq_68_16, zq_68_17, rbn0, cond_true, decide_eq_false (by omega)]
    rfl
  · rw [if_neg (by rw [iI_lt (by omega) (by omega) (by decide) (by decide)]; exact q1)]
    by_cases q2 : 57 < sb v
    · rw [if_pos (by rw [iI_lt (by decide) (by decide) (by omega) (by omega)]; exact q2), zq_68_16, zq_68_17, rbn0, cond_true, decide_eq_false (by omega)]
      rfl
    · rw [if_neg (by rw [iI_lt (by decide) (by decide) (by omega) (by omega)]; exact q2), zq_68_17, rbn1, cond_true, decide_eq_true (by omega)]
      rfl
theorem sg_t : ∀ j : Nat, j < 22 → (#[(103 : Int), 103, 103, 103, 105, 103, 105, 103, 105, 105, 105, 105, 105, 105, 105, 105, 105, 105, 105, 103, 103, 103] : Array Int)[j]? = some (if tkS ((j : Int) + 40) = true then 103 else 105) := by decide +kernel
theorem c_isS {v : Int} (h : 0 ≤ v ∧ v ≤ 255) (d : Nat) : z_ew (d + 1) 69 [.int (iI (sb v))] S = some (.inl (some (.int (bI (tkS v)))), S) := by
  have hs := sb_r h
  rw [zx_69]
  by_cases q : sb v < 40 ∨ 61 < sb v
  · have hf : tkS v = false := by
      unfold tkS
      refine decide_eq_false ?_
      unfold sb at q
      split at q <;> omega
    rw [sw_out (iI_i (by omega) (by omega)) q, hf]
    show z_R69 d 999999 106 0 _ [] S = _
    rw [zq_69_106]
    rfl
  · have hv : sb v = v := by
      unfold sb at q ⊢
      split at q <;> split <;> omega
    rw [hv] at q ⊢
    have ht := sg_t (v - 40).toNat (by omega)
    rw [show (((v - 40).toNat : Nat) : Int) + 40 = v by omega] at ht
    rw [sw_in (iI_i (by omega) (by omega)) q ht]
    by_cases e : tkS v = true
    · rw [if_pos e, e]
      show z_R69 d 999999 104 0 _ [] S = _
      rw [zq_69_104]
      rfl
    · rw [if_neg e, Bool.eq_false_iff.mpr e]
      show z_R69 d 999999 106 0 _ [] S = _
      rw [zq_69_106]
      rfl
theorem c_blk {T : Nat → Int} {n0 : Nat} (hn0 : n0 ≤ 700) (hT : ∀ k, k < n0 → (0 ≤ T k ∧ T k ≤ 255) ∧ S.1 1 k = iI (sb (T k))) (h1 : S.1 23 1 = iI (n0 : Int)) (d z : Nat) : ∀ (k q n : Nat), q + k = n0 → 2 * k + 2 ≤ n → z_R64 d n 5 z [some (.ref 23), some (.int (iI (q : Int)))] [] S = some (.inl (some (.int (iI (rnF tkB T k q : Int)))), S) := by
  intro k
  induction k with
  | zero =>
    intro q n hq hn
    obtain ⟨n, rfl⟩ : ∃ m, n = m + 2 := ⟨n - 2, by omega⟩
    rw [zq_64_5, h1, if_pos (by rw [iI_le (by omega) (by omega) (by omega) (by omega)]; omega), zq_64_41]
    rfl
  | succ k ih =>
    intro q n hq hn
    obtain ⟨n, rfl⟩ : ∃ m, n = m + 2 := ⟨n - 2, by omega⟩
    have e2 : (q : Int) + ((1 : Nat) : Int) = ((q + 1 : Nat) : Int) := by omega
    obtain ⟨hr, hv⟩ := hT q (by omega)
    have hs := sb_r hr
    have b1 : (iI (sb (T q)) = nI 32 ↔ T q = 32) ∧ (iI (sb (T q)) = nI 10 ↔ T q = 10) := by
      rw [iI_n 32, iI_n 10, iI_eq (by omega) (by omega) (by decide) (by decide), iI_eq (by omega) (by omega) (by decide) (by decide)]
      unfold sb
      split <;> omega
    have go := ih (q + 1) n (by omega) (by omega)
    rw [zq_64_5, h1, if_neg (by rw [iI_le (by omega) (by omega) (by omega) (by omega)]; omega), ixN (show q < 700 by omega) (by decide), cond_true, tN (by omega), hv, rnF_s]
    by_cases q1 : T q = 32
    · rw [if_pos (b1.1.mpr q1), zq_64_35, iI_n 1, iI_add, e2, if_pos (show tkB (T q) = true from decide_eq_true (Or.inl q1))]
      exact go
    · rw [if_neg (fun e => q1 (b1.1.mp e)), cond_true]
      by_cases q2 : T q = 10
      · rw [if_pos (b1.2.mpr q2), zq_64_35, iI_n 1, iI_add, e2, if_pos (show tkB (T q) = true from decide_eq_true (Or.inr q2))]
        exact go
      · rw [if_neg (fun e => q2 (b1.2.mp e)), zq_64_41, if_neg (fun e => by rcases of_decide_eq_true e with e | e; exact q1 e; exact q2 e)]
theorem c_let {T : Nat → Int} {n0 : Nat} (hn0 : n0 ≤ 700) (d z : Nat) : ∀ (k q n : Nat) (S : z_St), q + k = n0 → k + 2 ≤ n → (∀ k, k < n0 → (0 ≤ T k ∧ T k ≤ 255) ∧ S.1 1 k = iI (sb (T k))) → S.1 23 1 = iI (n0 : Int) → S.1 23 2 = iI (q : Int) → ∃ S', z_R65 (d + 1) n 0 z [some (.ref 23)] [] S = some (.inl none, S') ∧ S'.1 23 2 = iI (rnF tkL T k q : Int) ∧ (∀ a i, a ≠ 23 ∨ i ≠ 2 → S'.1 a i = S.1 a i) ∧ S'.2 = S.2 := by
  intro k
  induction k with
  | zero =>
    intro q n S hq hn hT h1 h2
    obtain ⟨n, rfl⟩ : ∃ m, n = m + 2 := ⟨n - 2, by omega⟩
    refine ⟨S, ?_, h2, fun _ _ _ => rfl, rfl⟩
    rw [zq_65_0, h1, h2, if_pos (by rw [iI_le (by omega) (by omega) (by omega) (by omega)]; omega), zq_65_39]
  | succ k ih =>
    intro q n S hq hn hT h1 h2
    obtain ⟨n, rfl⟩ : ∃ m, n = m + 2 := ⟨n - 2, by omega⟩
    have e2 : (q : Int) + ((1 : Nat) : Int) = ((q + 1 : Nat) : Int) := by omega
    obtain ⟨hr, hv⟩ := hT q (by omega)
    rw [zq_65_0, h1, h2, if_neg (by rw [iI_le (by omega) (by omega) (by omega) (by omega)]; omega), ixN (show q < 700 by omega) (by decide), cond_true, tN (by omega), hv, c_isL hr d, cli_i, rnF_s]
    by_cases q1 : tkL (T q) = true
    · have w : ∀ a i, a ≠ 23 ∨ i ≠ 2 → z_w1 S.1 23 2 (iI ((q + 1 : Nat) : Int)) a i = S.1 a i := by
        intro a i h
        rw [z_w1_r, if_neg (by omega)]
      obtain ⟨S', a1, a2, a3, a4⟩ := ih (q + 1) (n + 1) (z_w1 S.1 23 2 (iI ((q + 1 : Nat) : Int)), S.2) (by omega) (by omega) (fun k hk => ⟨(hT k hk).1, (w 1 k (by omega)).trans (hT k hk).2⟩) ((w 23 1 (by omega)).trans h1) (by dsimp only; rw [z_w1_r, if_pos ⟨rfl, rfl⟩])
      refine ⟨S', ?_, ?_, fun a i h => (a3 a i h).trans (w a i h), a4⟩
      · rw [q1, if_neg (by decide +kernel), h2, iI_n 1, iI_add, e2]
        exact a1
      · rw [if_pos q1]
        exact a2
    · refine ⟨S, ?_, ?_, fun _ _ _ => rfl, rfl⟩
      · rw [Bool.eq_false_iff.mpr q1, if_pos (by rfl), zq_65_39]
      · rw [if_neg q1]
        exact h2
end TKN
