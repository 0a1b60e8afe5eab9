/-! small whole numbers as ints of the machine; reads over writes -/
def iI (x : Int) : Int32 := Int32.ofInt x
theorem iI_n (k : Nat) : nI k = iI (k : Int) := by
  apply Int32.toBitVec_inj.1
  show BitVec.ofNat 32 k = BitVec.ofInt 32 (k : Int)
  simp
theorem iI_0 : (0 : Int32) = iI 0 := rfl
theorem iI_1 : (1 : Int32) = iI 1 := rfl
theorem iI_m1 : (-1 : Int32) = iI (-1) := rfl
theorem iI_add (a b : Int) : iI a + iI b = iI (a + b) := (Int32.ofInt_add a b).symm
theorem iI_neg (a : Int) : -iI a = iI (-a) := (Int32.ofInt_neg a).symm
theorem iI_sub (a b : Int) : iI a - iI b = iI (a - b) := by
  rw [Int32.sub_eq_add_neg, iI_neg, iI_add]
  rfl
theorem iI_mul (a b : Int) : iI a * iI b = iI (a * b) := (Int32.ofInt_mul a b).symm
theorem iI_i {a : Int} (h1 : -2147483648 ≤ a) (h2 : a < 2147483648) : (iI a).toInt = a := fb_ofI h1 h2
theorem iI_lt {a b : Int} (h1 : -2147483648 ≤ a) (h2 : a < 2147483648) (h3 : -2147483648 ≤ b) (h4 : b < 2147483648) : (iI a < iI b) ↔ a < b := by
  rw [fa_lt, iI_i h1 h2, iI_i h3 h4]
theorem iI_le {a b : Int} (h1 : -2147483648 ≤ a) (h2 : a < 2147483648) (h3 : -2147483648 ≤ b) (h4 : b < 2147483648) : (iI a ≤ iI b) ↔ a ≤ b := by
  rw [fa_le, iI_i h1 h2, iI_i h3 h4]
theorem iI_eq {a b : Int} (h1 : -2147483648 ≤ a) (h2 : a < 2147483648) (h3 : -2147483648 ≤ b) (h4 : b < 2147483648) : (iI a = iI b) ↔ a = b := by
  rw [fa_eq, iI_i h1 h2, iI_i h3 h4]
theorem iI_t {a : Int} (h1 : -2147483648 ≤ a) (h2 : a < 2147483648) : (iI a).toNatClampNeg = a.toNat := by
  show (iI a).toInt.toNat = a.toNat
  rw [iI_i h1 h2]
theorem iI_of (x : Int32) : ∃ v : Int, -2147483648 ≤ v ∧ v < 2147483648 ∧ x = iI v := ⟨x.toInt, (fb_rng x).1, (fb_rng x).2, (fb_asI x).symm⟩
theorem iI_ix {a : Int} {n : Nat} (h1 : -2147483648 ≤ a) (h2 : a < 2147483648) : z_ix (iI a) n = (decide (0 ≤ a) && decide (a < n)) := by
  unfold z_ix
  rw [iI_0, iI_t h1 h2]
  by_cases h : 0 ≤ a
  · have e : ¬ iI a < iI 0 := by rw [iI_lt h1 h2 (by omega) (by omega)]; omega
    have e2 : (a.toNat < n) ↔ (a < n) := by omega
    simp [e, h, e2]
  · have e : iI a < iI 0 := by rw [iI_lt h1 h2 (by omega) (by omega)]; omega
    simp [e, h]
theorem iI_ixt {a : Int} {n : Nat} (h1 : 0 ≤ a) (h2 : a < n) (h3 : n ≤ 2147483648) : z_ix (iI a) n = true := by
  rw [iI_ix (by omega) (by omega)]
  simp [h1, h2]
theorem iI_div {a b : Int} (h1 : 0 ≤ a) (h2 : a < 2147483648) (h3 : 0 < b) (h4 : b < 2147483648) : iI a / iI b = iI (a / b) := by
  apply Int32.toInt_inj.mp
  rw [Int32.toInt_div_of_ne_left _ _ (by
    intro e
    have := congrArg Int32.toInt e
    rw [iI_i (by omega) h2] at this
    have e2 : (Int32.minValue).toInt = -2147483648 := by decide
    rw [e2] at this
    omega), iI_i (by omega) h2, iI_i (by omega) h4, Int.tdiv_eq_ediv_of_nonneg h1]
  have h5 : 0 ≤ a / b := Int.ediv_nonneg h1 (by omega)
  have h6 : a / b ≤ a := Int.ediv_le_self _ h1
  rw [iI_i (by omega) (by omega)]
theorem iI_rem {a b : Int} (h1 : 0 ≤ a) (h2 : a < 2147483648) (h3 : 0 < b) (h4 : b < 2147483648) : iI a - iI a / iI b * iI b = iI (a % b) := by
  rw [iI_div h1 h2 h3 h4, iI_mul, iI_sub]
  congr 1
  have := Int.mul_ediv_add_emod a b
  rw [Int.mul_comm] at this
  omega
theorem z_w1_r (M : z_Mi) (a i : Nat) (v : Int32) (b j : Nat) : z_w1 M a i v b j = if b = a ∧ j = i then v else M b j := by
  unfold z_w1
  by_cases h : b = a
  · subst h
    by_cases h2 : j = i <;> simp [upd, h2]
  · simp [h]
theorem z_w2_r (M : z_Ml) (a i : Nat) (v : Int64) (b j : Nat) : z_w2 M a i v b j = if b = a ∧ j = i then v else M b j := by
  unfold z_w2
  by_cases h : b = a
  · subst h
    by_cases h2 : j = i <;> simp [vp_updL, h2]
  · simp [h]
theorem z_w1_n {M : z_Mi} {a i : Nat} {v : Int32} {b : Nat} (h : b ≠ a) : z_w1 M a i v b = M b := z_w1_ne h
theorem cli_i {x : Int32} {S : z_St} {f : Int32 → z_St → z_Res} {g : Nat → z_St → z_Res} : z_cli (some (.inl (some (.int x)), S)) f g = f x S := rfl
theorem cli_x {e : Nat} {S : z_St} {f : Int32 → z_St → z_Res} {g : Nat → z_St → z_Res} : z_cli (some (.inr e, S)) f g = g e S := rfl
theorem clv_v {S : z_St} {f : z_St → z_Res} {g : Nat → z_St → z_Res} : z_clv (some (.inl none, S)) f g = f S := rfl
theorem clv_x {e : Nat} {S : z_St} {f : z_St → z_Res} {g : Nat → z_St → z_Res} : z_clv (some (.inr e, S)) f g = g e S := rfl
theorem clr_r {x : Nat} {S : z_St} {f : Nat → z_St → z_Res} {g : Nat → z_St → z_Res} : z_clr (some (.inl (some (.ref x)), S)) f g = f x S := rfl
theorem hnd_0 {e : Nat} {S : z_St} : z_hnd [] e S = some (.inr e, S) := rfl
theorem rb_0 : z_rb (some .boolean) (iI 0) = true := by decide +kernel
theorem rb_1 : z_rb (some .boolean) (iI 1) = true := by decide +kernel
theorem rb_i {x : Int32} : z_rb (some .int) x = true := rfl
/-! small methods -/
theorem zy_112 (d : Nat) (a b c : Int) (S : z_St) (h1 : -2147483648 ≤ a) (h2 : a < 2147483648) (h3 : -2147483648 ≤ b) (h4 : b < 2147483648) (h5 : -2147483648 ≤ c) (h6 : c < 2147483648) : z_ew (d + 1) 112 [.int (iI a), .int (iI b), .int (iI c)] S = some (.inl (some (.int (iI (if b ≤ a ∧ a ≤ c then 1 else 0)))), S) := by
  simp only [zx_112, zq_112_14, zq_112_15, iI_n, iI_lt h1 h2 h3 h4, iI_lt h5 h6 h1 h2]
  by_cases q1 : a < b
  · rw [if_pos q1, if_neg (by omega)]
    simp [rb_0]
  · rw [if_neg q1]
    by_cases q2 : c < a
    · rw [if_pos q2, if_neg (by omega)]
      simp [rb_0]
    · rw [if_neg q2, if_pos (by omega)]
      simp [rb_1]
