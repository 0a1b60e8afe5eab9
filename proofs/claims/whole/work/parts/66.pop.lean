/-! the bits of a long, counted -/
def zM (c : Nat) : Nat → Nat
  | 0 => 0
  | k + 1 => c + 256 * zM c k
theorem and_step {x c : Nat} (hx : x < 256) (hc : c < 256) (y m : Nat) : (x + 256 * y) &&& (c + 256 * m) = (x &&& c) + 256 * (y &&& m) := by
  have hxc : x &&& c < 256 := Nat.lt_of_le_of_lt Nat.and_le_left hx
  apply Nat.eq_of_testBit_eq
  intro i
  rw [Nat.testBit_and, Nat.add_comm x, Nat.add_comm c, Nat.add_comm (x &&& c), show (256 : Nat) = 2 ^ 8 from rfl, Nat.testBit_two_pow_mul_add _ hx, Nat.testBit_two_pow_mul_add _ hc, Nat.testBit_two_pow_mul_add _ hxc]
  by_cases h : i < 8
  · simp [h, Nat.testBit_and]
  · simp [h, Nat.testBit_and]
def zf1 (b : Nat) : Nat := b - ((b / 2) &&& 85)
def zf2 (b : Nat) : Nat := (zf1 b &&& 51) + ((zf1 b / 4) &&& 51)
def zf3 (b : Nat) : Nat := (zf2 b + zf2 b / 16) &&& 15
def zP1 (k n : Nat) : Nat := n - ((n / 2) &&& zM 85 k)
def zP2 (k n : Nat) : Nat := (zP1 k n &&& zM 51 k) + ((zP1 k n / 4) &&& zM 51 k)
def zP3 (k n : Nat) : Nat := (zP2 k n + zP2 k n / 16) &&& zM 15 k
theorem zt1 : ∀ b, b < 256 → ((b / 2) &&& 85 = (b / 2 + 128) &&& 85) ∧ (b / 2) &&& 85 ≤ b := by decide +kernel
theorem zt2 : ∀ b, b < 256 → zf1 b < 256 ∧ ((zf1 b / 4) &&& 51 = (zf1 b / 4 + 64) &&& 51) ∧ ((zf1 b / 4) &&& 51 = (zf1 b / 4 + 128) &&& 51) ∧ ((zf1 b / 4) &&& 51 = (zf1 b / 4 + 192) &&& 51) := by decide +kernel
theorem zt3 : ∀ b, b < 256 → zf2 b ≤ 68 ∧ zf2 b % 16 ≤ 4 ∧ (∀ e, e < 5 → (zf2 b + (zf2 b / 16 + 16 * e)) &&& 15 = zf3 b) ∧ zf3 b ≤ 8 := by decide +kernel
theorem zt4 : ∀ b, b < 256 → zf3 b = fb_ct (fun i => b.testBit i) 8 := by decide +kernel
theorem zP1_s (k b q : Nat) (hb : b < 256) : zP1 (k + 1) (b + 256 * q) = zf1 b + 256 * zP1 k q := by
  obtain ⟨t1, t2⟩ := zt1 b hb
  have e : (b + 256 * q) / 2 = (b / 2 + 128 * (q % 2)) + 256 * (q / 2) := by omega
  have l : q / 2 &&& zM 85 k ≤ q / 2 := Nat.and_le_left
  have e2 : (b / 2 + 128 * (q % 2)) &&& 85 = (b / 2) &&& 85 := by
    have : q % 2 = 0 ∨ q % 2 = 1 := by omega
    rcases this with h | h <;> rw [h]
    · rfl
    · exact t1.symm
  show b + 256 * q - ((b + 256 * q) / 2 &&& (85 + 256 * zM 85 k)) = b - (b / 2 &&& 85) + 256 * (q - (q / 2 &&& zM 85 k))
  rw [e, and_step (by omega) (by decide), e2]
  omega
theorem zP2_s (k b q : Nat) (hb : b < 256) : zP2 (k + 1) (b + 256 * q) = zf2 b + 256 * zP2 k q := by
  obtain ⟨t0, t1, t2, t3⟩ := zt2 b hb
  show (zP1 (k + 1) (b + 256 * q) &&& (51 + 256 * zM 51 k)) + (zP1 (k + 1) (b + 256 * q) / 4 &&& (51 + 256 * zM 51 k)) = (zf1 b &&& 51) + ((zf1 b / 4) &&& 51) + 256 * ((zP1 k q &&& zM 51 k) + ((zP1 k q / 4) &&& zM 51 k))
  have e : (zf1 b + 256 * zP1 k q) / 4 = (zf1 b / 4 + 64 * (zP1 k q % 4)) + 256 * (zP1 k q / 4) := by omega
  have e2 : (zf1 b / 4 + 64 * (zP1 k q % 4)) &&& 51 = (zf1 b / 4) &&& 51 := by
    have : zP1 k q % 4 = 0 ∨ zP1 k q % 4 = 1 ∨ zP1 k q % 4 = 2 ∨ zP1 k q % 4 = 3 := by omega
    rcases this with h | h | h | h <;> rw [h]
    · rfl
    · exact t1.symm
    · exact t2.symm
    · exact t3.symm
  rw [zP1_s k b q hb, e, and_step t0 (by decide), and_step (by omega) (by decide), e2]
  omega
theorem zP2_m (k q : Nat) : zP2 k q % 16 ≤ 4 := by
  cases k with
  | zero => show ((zP1 0 q &&& 0) + ((zP1 0 q / 4) &&& 0)) % 16 ≤ 4; rw [Nat.and_zero, Nat.and_zero]; decide
  | succ k =>
    have h := zP2_s k (q % 256) (q / 256) (by omega)
    rw [show q % 256 + 256 * (q / 256) = q by omega] at h
    have := (zt3 (q % 256) (by omega)).2.1
    rw [h]
    omega
theorem zP3_s (k b q : Nat) (hb : b < 256) : zP3 (k + 1) (b + 256 * q) = zf3 b + 256 * zP3 k q := by
  obtain ⟨t0, t1, t2, t3⟩ := zt3 b hb
  have hm := zP2_m k q
  show (zP2 (k + 1) (b + 256 * q) + zP2 (k + 1) (b + 256 * q) / 16) &&& (15 + 256 * zM 15 k) = zf3 b + 256 * ((zP2 k q + zP2 k q / 16) &&& zM 15 k)
  have e : zf2 b + 256 * zP2 k q + (zf2 b + 256 * zP2 k q) / 16 = (zf2 b + (zf2 b / 16 + 16 * (zP2 k q % 16))) + 256 * (zP2 k q + zP2 k q / 16) := by omega
  rw [zP2_s k b q hb, e, and_step (by omega) (by decide), t2 _ (by omega)]
def zct (k n : Nat) : Nat := fb_ct (fun i => n.testBit i) (8 * k)
theorem zct_s (k b q : Nat) (hb : b < 256) : zct (k + 1) (b + 256 * q) = zf3 b + zct k q := by
  unfold zct
  rw [show 8 * (k + 1) = 8 + 8 * k by omega, fb_ct_split, zt4 b hb]
  congr 1
  · apply fb_ct_cong
    intro i hi
    rw [Nat.add_comm b, show (256 : Nat) = 2 ^ 8 from rfl, Nat.testBit_two_pow_mul_add _ hb, if_pos hi]
  · apply fb_ct_cong
    intro i hi
    rw [Nat.add_comm b, show (256 : Nat) = 2 ^ 8 from rfl, Nat.testBit_two_pow_mul_add _ hb, if_neg (by omega)]
    congr 1
    omega
theorem zP_all (k : Nat) : ∀ n, n < 256 ^ k → ∃ p : Nat → Nat, (∀ i, p i ≤ 8) ∧ zP3 k n = fb_sm (fun i => p i * 256 ^ i) k ∧ zct k n = fb_sm p k := by
  induction k with
  | zero =>
    intro n hn
    refine ⟨fun _ => 0, fun _ => Nat.zero_le 8, ?_, rfl⟩
    show (zP2 0 n + zP2 0 n / 16) &&& 0 = 0
    exact Nat.and_zero _
  | succ k ih =>
    intro n hn
    obtain ⟨p, h1, h2, h3⟩ := ih (n / 256) (by rw [Nat.pow_succ] at hn; omega)
    have hb : n % 256 < 256 := by omega
    have e : n % 256 + 256 * (n / 256) = n := by omega
    have g1 := zP3_s k (n % 256) (n / 256) hb
    have g2 := zct_s k (n % 256) (n / 256) hb
    rw [e] at g1 g2
    refine ⟨fun i => if i = 0 then zf3 (n % 256) else p (i - 1), fun i => ?_, ?_, ?_⟩
    · dsimp only
      by_cases h : i = 0
      · rw [if_pos h]; exact (zt3 _ hb).2.2.2
      · rw [if_neg h]; exact h1 _
    · rw [g1, h2, Nat.add_comm k 1, fb_sm_split]
      have a : fb_sm (fun i => (if i = 0 then zf3 (n % 256) else p (i - 1)) * 256 ^ i) 1 = zf3 (n % 256) := by
        show 0 + (if (0 : Nat) = 0 then zf3 (n % 256) else p (0 - 1)) * 256 ^ 0 = _
        rw [if_pos rfl]; omega
      rw [a]
      congr 1
      have c : ∀ m, 256 * fb_sm (fun i => p i * 256 ^ i) m = fb_sm (fun i => 256 * (p i * 256 ^ i)) m := by
        intro m
        induction m with
        | zero => rfl
        | succ m ihm => rw [fb_sm_succ, fb_sm_succ, Nat.mul_add, ihm]
      rw [c]
      apply fb_sm_cong
      intro i _
      dsimp only
      rw [if_neg (by omega), show 1 + i - 1 = i by omega, Nat.add_comm 1 i, Nat.pow_succ, Nat.mul_left_comm, Nat.mul_comm 256 (256 ^ i)]
    · rw [g2, h3, Nat.add_comm k 1, fb_sm_split]
      have a : fb_sm (fun i => if i = 0 then zf3 (n % 256) else p (i - 1)) 1 = zf3 (n % 256) := by
        show 0 + (if (0 : Nat) = 0 then zf3 (n % 256) else p (0 - 1)) = _
        rw [if_pos rfl]; omega
      rw [a]
      congr 1
      apply fb_sm_cong
      intro i _
      rw [if_neg (by omega), show 1 + i - 1 = i by omega]
theorem zpopA (b0 b1 b2 b3 b4 b5 b6 b7 : Nat) (a0 : b0 ≤ 8) (a1 : b1 ≤ 8) (a2 : b2 ≤ 8) (a3 : b3 ≤ 8) (a4 : b4 ≤ 8) (a5 : b5 ≤ 8) (a6 : b6 ≤ 8) (a7 : b7 ≤ 8) (c d e f : Nat) (hc : c = b0 + b1 * 256 + b2 * 65536 + b3 * 16777216 + b4 * 4294967296 + b5 * 1099511627776 + b6 * 281474976710656 + b7 * 72057594037927936) (hd : d = c + c / 256) (he : e = d + d / 65536) (hf : f = e + e / 4294967296) : c < 2 ^ 60 ∧ d < 2 ^ 61 ∧ e < 2 ^ 62 ∧ f < 2 ^ 63 ∧ f % 128 = b0 + b1 + b2 + b3 + b4 + b5 + b6 + b7 := by
  have d1 : c / 256 = b1 + b2 * 256 + b3 * 65536 + b4 * 16777216 + b5 * 4294967296 + b6 * 1099511627776 + b7 * 281474976710656 := by
    clear hd he hf
    apply Nat.div_eq_of_lt_le <;> rw [hc] <;> omega
  rw [d1] at hd
  clear d1
  have d2 : d / 65536 = (b2 + b3) + (b3 + b4) * 256 + (b4 + b5) * 65536 + (b5 + b6) * 16777216 + (b6 + b7) * 4294967296 + b7 * 1099511627776 := by
    clear he hf
    apply Nat.div_eq_of_lt_le <;> rw [hd, hc] <;> omega
  rw [d2] at he
  clear d2
  have d3 : e / 4294967296 = (b4 + b5 + b6 + b7) + (b5 + b6 + b7) * 256 + (b6 + b7) * 65536 + b7 * 16777216 := by
    clear hf
    apply Nat.div_eq_of_lt_le <;> rw [he, hd, hc] <;> omega
  rw [d3] at hf
  clear d3
  subst hc
  subst hd
  subst he
  have g : f = (b0 + b1 + b2 + b3 + b4 + b5 + b6 + b7) + 128 * ((2 * (b1 + b2 + b3 + b4 + b5 + b6 + b7)) + 512 * (b2 + b3 + b4 + b5 + b6 + b7) + 131072 * (b3 + b4 + b5 + b6 + b7) + 33554432 * (b4 + b5 + b6 + b7) + 8589934592 * (b5 + b6 + b7) + 2199023255552 * (b6 + b7) + 562949953421312 * b7) := by omega
  refine ⟨?_, ?_, ?_, ?_, ?_⟩
  · clear hf g; omega
  · clear hf g; omega
  · clear hf g; omega
  · clear hf; omega
  · clear hf
    rw [g, Nat.add_mul_mod_self_left]
    exact Nat.mod_eq_of_lt (by omega)
theorem zpop (n : Nat) (hn : n < 256 ^ 8) (c d e f : Nat) (hc : c = zP3 8 n) (hd : d = c + c / 256) (he : e = d + d / 65536) (hf : f = e + e / 4294967296) : c < 2 ^ 60 ∧ d < 2 ^ 61 ∧ e < 2 ^ 62 ∧ f < 2 ^ 63 ∧ f % 128 = zct 8 n := by
  obtain ⟨p, h1, h2, h3⟩ := zP_all 8 n hn
  have e2 : fb_sm (fun i => p i * 256 ^ i) 8 = p 0 + p 1 * 256 + p 2 * 65536 + p 3 * 16777216 + p 4 * 4294967296 + p 5 * 1099511627776 + p 6 * 281474976710656 + p 7 * 72057594037927936 := by
    simp only [fb_sm]
    omega
  have e3 : fb_sm p 8 = p 0 + p 1 + p 2 + p 3 + p 4 + p 5 + p 6 + p 7 := by
    simp only [fb_sm]
    omega
  rw [h3, e3]
  exact zpopA _ _ _ _ _ _ _ _ (h1 0) (h1 1) (h1 2) (h1 3) (h1 4) (h1 5) (h1 6) (h1 7) c d e f (by rw [hc, h2, e2]) hd he hf
theorem zlN_add (a b : Nat) : lN a + lN b = lN (a + b) := by
  apply wb_inj
  show BitVec.ofNat 64 a + BitVec.ofNat 64 b = BitVec.ofNat 64 (a + b)
  rw [BitVec.ofNat_add]
theorem zlN_sub {a b : Nat} (h : b ≤ a) : lN a - lN b = lN (a - b) := by
  apply wb_inj
  show BitVec.ofNat 64 a - BitVec.ofNat 64 b = BitVec.ofNat 64 (a - b)
  have e : BitVec.ofNat 64 a = BitVec.ofNat 64 (a - b) + BitVec.ofNat 64 b := by
    rw [← BitVec.ofNat_add, Nat.sub_add_cancel h]
  rw [e, BitVec.add_sub_cancel]
theorem zP1_lt (k n : Nat) : zP1 k n ≤ n := Nat.sub_le _ _
theorem lN32 (n : Nat) : Int64.toInt32 (lN n) = nI n := by
  apply Int32.toBitVec_inj.1
  show (BitVec.ofNat 64 n).signExtend 32 = BitVec.ofNat 32 n
  apply BitVec.eq_of_toNat_eq
  rw [BitVec.signExtend_eq_setWidth_of_le _ (by decide)]
  simp
theorem zP2_lt (k n : Nat) : zP2 k n ≤ 2 * zM 51 k := by
  have a : zP1 k n &&& zM 51 k ≤ zM 51 k := Nat.and_le_right
  have b : (zP1 k n / 4) &&& zM 51 k ≤ zM 51 k := Nat.and_le_right
  unfold zP2
  omega
theorem zy_186 (d : Nat) (w : Int64) (S : z_St) : z_ew (d + 1) 186 [.long w] S = some (.inl (some (.int (iI (fb_ct (fun k => w.toBitVec.getLsbD k) 64 : Int)))), S) := by
  obtain ⟨n, hn, rfl⟩ := wb_of w
  have h1 := zP1_lt 8 n
  have h2 := zP2_lt 8 n
  have m5 : zM 85 8 = 6148914691236517205 := by decide +kernel
  have m3 : zM 51 8 = 3689348814741910323 := by decide +kernel
  have mf : zM 15 8 = 1085102592571150095 := by decide +kernel
  obtain ⟨g1, g2, g3, g4, g5⟩ := zpop n hn _ _ _ _ rfl rfl rfl rfl
  have hp1 : zP1 8 n < 2 ^ 64 := Nat.lt_of_le_of_lt h1 hn
  have hq1 : n / 2 < 2 ^ 64 := Nat.lt_of_le_of_lt (Nat.div_le_self _ _) hn
  have hq2 : zP1 8 n / 4 < 2 ^ 64 := Nat.lt_of_le_of_lt (Nat.div_le_self _ _) hp1
  have hp2 : zP2 8 n + zP2 8 n / 16 < 2 ^ 64 := by rw [m3] at h2; omega
  have hle : n / 2 &&& zM 85 8 ≤ n := Nat.le_trans Nat.and_le_left (Nat.div_le_self _ _)
  have e1 : lN n - (((Int64.toUInt64 (lN n) >>> (Int64.toUInt64 (Int32.toInt64 (nI 1)) &&& Int64.toUInt64 63)).toInt64) &&& (lN 6148914691236517205)) = lN (zP1 8 n) := by
    rw [wb_shr hn (by decide), wb_and hq1 (by decide), ← m5]
    exact zlN_sub hle
  have e2 : (lN (zP1 8 n) &&& lN 3689348814741910323) + (((Int64.toUInt64 (lN (zP1 8 n)) >>> (Int64.toUInt64 (Int32.toInt64 (nI 2)) &&& Int64.toUInt64 63)).toInt64) &&& (lN 3689348814741910323)) = lN (zP2 8 n) := by
    rw [wb_shr hp1 (by decide), wb_and hp1 (by decide), wb_and hq2 (by decide), ← m3]
    exact zlN_add _ _
  have e3 : (lN (zP2 8 n) + ((Int64.toUInt64 (lN (zP2 8 n)) >>> (Int64.toUInt64 (Int32.toInt64 (nI 4)) &&& Int64.toUInt64 63)).toInt64)) &&& lN 1085102592571150095 = lN (zP3 8 n) := by
    rw [wb_shr (by omega) (by decide), zlN_add, wb_and hp2 (by decide), ← mf]
    rfl
  rw [zx_186, e1, e2, e3, wb_shr (by omega) (by decide), zlN_add, wb_shr (n := zP3 8 n + zP3 8 n / 2 ^ 8) (by omega) (by decide), zlN_add, wb_shr (n := zP3 8 n + zP3 8 n / 2 ^ 8 + (zP3 8 n + zP3 8 n / 2 ^ 8) / 2 ^ 16) (by omega) (by decide), zlN_add, lN32]
  have e4 := fa_mask (zP3 8 n + zP3 8 n / 2 ^ 8 + (zP3 8 n + zP3 8 n / 2 ^ 8) / 2 ^ 16 + (zP3 8 n + zP3 8 n / 2 ^ 8 + (zP3 8 n + zP3 8 n / 2 ^ 8) / 2 ^ 16) / 2 ^ 32) 7
  have e5 : nI 127 = nI (2 ^ 7 - 1) := rfl
  have e6 : fb_ct (fun k => (lN n).toBitVec.getLsbD k) 64 = zct 8 n := by
    apply fb_ct_cong
    intro k hk
    rw [wb_tb, BitVec.getLsbD_ofNat]
    simp [hk]
  rw [e5, e4, e6, iI_n, ← g5]
