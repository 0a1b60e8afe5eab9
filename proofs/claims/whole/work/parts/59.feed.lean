/-! feed -/
def bv (l : Int32) (s : Nat) : Int := ((l >>> (nI s &&& 31)) &&& nI 255).toInt
theorem bv_n (l : Int32) (s : Nat) : ∃ k : Nat, k < 256 ∧ (l >>> (nI s &&& 31)) &&& nI 255 = nI k := by
  obtain ⟨m, -, e⟩ := wb_of32 (l >>> (nI s &&& 31))
  refine ⟨m % 256, by omega, ?_⟩
  rw [e]
  exact fa_mask m 8
theorem bv_r (l : Int32) (s : Nat) : 0 ≤ bv l s ∧ bv l s ≤ 255 := by
  obtain ⟨k, hk, e⟩ := bv_n l s
  unfold bv
  rw [e, nI_toInt (by omega)]
  omega
theorem bv_i (l : Int32) (s : Nat) : (l >>> (nI s &&& 31)) &&& nI 255 = iI (bv l s) := (fb_asI _).symm
theorem by_a : ∀ k : Nat, k < 256 → iI ((k : Int) - 128) &&& nI 255 = iI (if 128 ≤ k then (k : Int) - 128 else (k : Int) + 128) := by decide +kernel
theorem by_eq (l : Int32) (s : Nat) (hs : s ≤ 24) : vp_nar .byte (Int8.toInt32 (Int32.toInt8 (((Int32.toUInt32 l) >>> (Int32.toUInt32 (nI s) &&& Int32.toUInt32 31)).toInt32))) = iI (ce 10 (bv l s)) := by
  have e0 : ∀ y : Int32, vp_nar .byte y = y.toInt8.toInt32 := fun _ => rfl
  rw [e0, fb_byte_twice]
  generalize hu : ((Int32.toUInt32 l) >>> (Int32.toUInt32 (nI s) &&& Int32.toUInt32 31)).toInt32 = u
  have e1 : u &&& nI 255 = iI (bv l s) := by
    rw [← bv_i]
    show u &&& 255 = (l >>> (nI s &&& 31)) &&& 255
    apply b_ext
    intro i hi
    rw [b_and, b_and, b_255]
    by_cases q : i < 8
    · rw [← hu, b_ushr s (by omega), b_sshr s (by omega) l hi, if_pos (by omega)]
    · simp [q]
  have e2 : u.toInt8.toInt32 &&& nI 255 = iI (bv l s) := by
    rw [← e1]
    exact bp_b u
  obtain ⟨r1, r2⟩ := fb_byte_rng u
  have hb := bv_r l s
  obtain ⟨k, hk⟩ : ∃ k : Nat, u.toInt8.toInt32.toInt = (k : Int) - 128 := ⟨(u.toInt8.toInt32.toInt + 128).toNat, by omega⟩
  have e3 : u.toInt8.toInt32 = iI ((k : Int) - 128) := by rw [← hk]; exact (fb_asI _).symm
  rw [e3] at e2 ⊢
  rw [by_a k (by omega)] at e2
  by_cases q : 128 ≤ k
  · rw [if_pos q, iI_eq (by omega) (by omega) (by omega) (by omega)] at e2
    have e4 : ce 10 (bv l s) = bv l s := by
      show (if 128 ≤ bv l s then bv l s - 256 else bv l s) = bv l s
      rw [if_neg (by omega)]
    rw [e4, e2]
  · rw [if_neg q, iI_eq (by omega) (by omega) (by omega) (by omega)] at e2
    have e4 : ce 10 (bv l s) = bv l s - 256 := by
      show (if 128 ≤ bv l s then bv l s - 256 else bv l s) = bv l s - 256
      rw [if_pos (by omega)]
    have e5 : (k : Int) - 128 = bv l s - 256 := by omega
    rw [e4, e5]
def pu (A : aS) (v : Int) : aS := aU (aU A 10 (A 0 0).toNat v) 0 0 (A 0 0 + 1)
section FEE
variable {p : Nat} {A : aS} {S : z_St}
theorem dD_0 {v : Int} (y : Nat) : dD (aU A 0 0 v) y = if y = 10 then v.toNat else dD A y := by
  by_cases h : y = 10
  · subst h; rfl
  · rw [if_neg h]
    unfold dD
    simp [aU_r, h]
theorem mD_0 {v : Int} (y : Nat) : mD (aU A 0 0 v) y = if y = 10 then v.toNat else mD A y := by
  unfold mD
  rw [dD_0]
  by_cases h : y = 10
  · subst h; rfl
  · rw [if_neg h, if_neg h]
theorem wf.t {A : aS} (h : wf A) : 0 ≤ A 0 0 ∧ A 0 0 ≤ 700 := h.1.1
theorem wf_pu {v : Int} (h : wf A) (ht : A 0 0 < 700) (h1 : 0 ≤ v) (h2 : v ≤ 255) : wf (pu A v) := by
  have h0 := h.t
  obtain ⟨⟨a1, a2, a3⟩, g2, g3⟩ := h
  refine ⟨⟨?_, fun j hj => ?_, a3⟩, g2, g3⟩
  · show 0 ≤ A 0 0 + 1 ∧ A 0 0 + 1 ≤ 700
    omega
  · have hj : (j : Int) < A 0 0 + 1 := hj
    show 0 ≤ aU A 10 (A 0 0).toNat v 10 j ∧ aU A 10 (A 0 0).toNat v 10 j ≤ 255
    rw [aU_r]
    by_cases q : j = (A 0 0).toNat
    · rw [if_pos ⟨rfl, q⟩]; exact ⟨h1, h2⟩
    · rw [if_neg (fun e => q e.2)]; exact a2 j (by omega)
theorem wf_10 {v : Int} {j : Nat} (h : wf A) (hj : A 0 0 ≤ j) : wf (aU A 10 j v) := by
  obtain ⟨⟨a1, a2, a3⟩, g2, g3⟩ := h
  refine ⟨⟨a1, fun i hi => ?_, a3⟩, g2, g3⟩
  have hi : (i : Int) < A 0 0 := hi
  rw [aU_r, if_neg (by omega)]
  exact a2 i hi
theorem c_pu {v : Int} (h : CI p A S) (hw : wf A) {t : Nat} (ht : A 0 0 = t) (h7 : t < 700) : CI p (pu A v) (z_w1 (z_w1 S.1 1 t (iI (ce 10 v))) 0 1 (iI ((t + 1 : Nat) : Int)), S.2) := by
  have e1 := h.w (x := 10) (j := t) (v := v) hw (by decide) (show t < 700 from h7) (by decide) (dD_u (by decide))
  have x1 : cx 10 t = t := by show 0 + 1 * t = _; omega
  rw [x1] at e1
  have w1 := wf_10 (v := v) (j := t) hw (by omega)
  have e3 := e1.wg (x := 0) (j := 0) (v := ((t + 1 : Nat) : Int)) w1 (by decide) (by decide) (by decide) (fun y hy k hk => by
    rw [dD_0] at hk
    by_cases q : y = 10
    · rw [if_pos q] at hk
      subst q
      by_cases q2 : k = t
      · subst q2
        refine Or.inr ?_
        rw [x1]
        show z_w1 (z_w1 S.1 1 k (iI (ce 10 v))) 0 1 (iI ((k + 1 : Nat) : Int)) 1 k = iI (ce 10 (aU (aU A 10 k v) 0 0 ((k + 1 : Nat) : Int) 10 k))
        rw [z_w1_r, if_neg (by omega), z_w1_r, if_pos ⟨rfl, rfl⟩, aU_r, if_neg (by omega), aU_r, if_pos ⟨rfl, rfl⟩]
      · refine Or.inl ?_
        show k < (A 0 0).toNat
        omega
    · rw [if_neg q] at hk
      exact Or.inl hk)
  have e5 : pu A v = aU (aU A 10 t v) 0 0 ((t + 1 : Nat) : Int) := by
    unfold pu
    rw [ht]
    rfl
  rw [e5]
  exact e3
theorem m_pu {v : Int} (h : MI A S) (hw : wf A) {t : Nat} (ht : A 0 0 = t) (h7 : t < 700) : MI (pu A v) (z_w1 (z_w1 S.1 82 t (iI v)) 70 17 (iI ((t + 1 : Nat) : Int)), S.2) := by
  have e1 := h.w (x := 10) (j := t) (v := v) hw (by decide) (show t < 700 from h7) (by decide) (dD_u (by decide))
  have x1 : mx 10 t = t := by show 0 + 1 * t = _; omega
  rw [x1] at e1
  have w1 := wf_10 (v := v) (j := t) hw (by omega)
  have e3 := e1.wg (x := 0) (j := 0) (v := ((t + 1 : Nat) : Int)) w1 (by decide) (by decide) (by decide) (fun y hy k hk => by
    rw [mD_0] at hk
    by_cases q : y = 10
    · rw [if_pos q] at hk
      subst q
      by_cases q2 : k = t
      · subst q2
        refine Or.inr ?_
        rw [x1]
        show z_w1 (z_w1 S.1 82 k (iI v)) 70 17 (iI ((k + 1 : Nat) : Int)) 82 k = iI (aU (aU A 10 k v) 0 0 ((k + 1 : Nat) : Int) 10 k)
        rw [z_w1_r, if_neg (by omega), z_w1_r, if_pos ⟨rfl, rfl⟩, aU_r, if_neg (by omega), aU_r, if_pos ⟨rfl, rfl⟩]
      · refine Or.inl ?_
        show k < (A 0 0).toNat
        omega
    · rw [if_neg q] at hk
      exact Or.inl hk)
  have e5 : pu A v = aU (aU A 10 t v) 0 0 ((t + 1 : Nat) : Int) := by
    unfold pu
    rw [ht]
    rfl
  rw [e5]
  exact e3
theorem pu_0 (A : aS) (v : Int) : pu A v 0 0 = A 0 0 + 1 := rfl
/-- one byte of the class -/
theorem c_byte (h : CI p A S) (hw : wf A) (ht : A 0 0 < 700) (l : Int32) (s : Nat) (hs : s ≤ 24) (d n z : Nat) : ∃ S1, CI p (pu A (bv l s)) S1 ∧ fC S S1 ∧ z_R99 d (n + 1) 3 z [some (.ref 0), some (.int l), some (.int (nI s))] [] S = z_R99 d n 3 z [some (.ref 0), some (.int l), some (.int (nI s + -nI 8))] [] S1 := by
  have h0 := hw.t
  obtain ⟨t, e⟩ : ∃ t : Nat, A 0 0 = t := ⟨(A 0 0).toNat, by omega⟩
  refine ⟨_, c_pu (v := bv l s) h hw e (by omega), (fC_w1 (by decide)).tr (fC_w1 (S := (_, S.2)) (by decide)), ?_⟩
  rw [zq_99_3, if_neg (nI_pos (by omega)), c_0 h, e, iI_n 700, if_neg (by rw [iI_le (by decide) (by decide) (by omega) (by omega)]; omega), ixN (by omega) (by decide), cond_true, tN (by omega), by_eq l s hs, iI_n 1, iI_add]
  rfl
theorem c_put (h : CI p A S) (hw : wf A) (ht : A 0 0 + 4 ≤ 700) (l : Int32) (d : Nat) : ∃ S1, CI p (pu (pu (pu (pu A (bv l 24)) (bv l 16)) (bv l 8)) (bv l 0)) S1 ∧ wf (pu (pu (pu (pu A (bv l 24)) (bv l 16)) (bv l 8)) (bv l 0)) ∧ fC S S1 ∧ z_ew (d + 1) 99 [.ref 0, .int l] S = some (.inl none, S1) := by
  have q : ∀ s, 0 ≤ bv l s ∧ bv l s ≤ 255 := fun s => bv_r l s
  have w1 := wf_pu (v := bv l 24) hw (by omega) (q 24).1 (q 24).2
  have w2 := wf_pu (v := bv l 16) w1 (by rw [pu_0]; omega) (q 16).1 (q 16).2
  have w3 := wf_pu (v := bv l 8) w2 (by rw [pu_0, pu_0]; omega) (q 8).1 (q 8).2
  have w4 := wf_pu (v := bv l 0) w3 (by rw [pu_0, pu_0, pu_0]; omega) (q 0).1 (q 0).2
  obtain ⟨S1, c1, f1, e1⟩ := c_byte h hw (by omega) l 24 (by decide) d 999998 0
  obtain ⟨S2, c2, f2, e2⟩ := c_byte c1 w1 (by rw [pu_0]; omega) l 16 (by decide) d 999997 0
  obtain ⟨S3, c3, f3, e3⟩ := c_byte c2 w2 (by rw [pu_0, pu_0]; omega) l 8 (by decide) d 999996 0
  obtain ⟨S4, c4, f4, e4⟩ := c_byte c3 w3 (by rw [pu_0, pu_0, pu_0]; omega) l 0 (by decide) d 999995 0
  refine ⟨S4, c4, w4, ((f1.tr f2).tr f3).tr f4, ?_⟩
  have x1 : nI 24 + -nI 8 = nI 16 := by decide +kernel
  have x2 : nI 16 + -nI 8 = nI 8 := by decide +kernel
  have x3 : nI 8 + -nI 8 = nI 0 := by decide +kernel
  have x4 : nI 0 + -nI 8 < 0 := by decide +kernel
  rw [zx_99, e1, x1, e2, x2, e3, x3, e4, zq_99_3, if_pos x4, zq_99_46]
def fv (a b c d e : Int32) (k : Nat) : Int := bv (if k < 4 then a else if k < 8 then b else if k < 12 then c else if k < 16 then d else e) (24 - 8 * (k % 4))
def pN (f : Nat → Int) : Nat → aS → aS
  | 0, A => A
  | n + 1, A => pu (pN f n A) (f n)
theorem pN_0 (f : Nat → Int) : ∀ (n : Nat) (A : aS), pN f n A 0 0 = A 0 0 + n
  | 0, A => by show A 0 0 = A 0 0 + 0; omega
  | n + 1, A => by
    show pN f n A 0 0 + 1 = _
    rw [pN_0 f n A]
    omega
theorem wf_pN {f : Nat → Int} (hf : ∀ k, 0 ≤ f k ∧ f k ≤ 255) : ∀ (n : Nat) {A : aS}, wf A → A 0 0 + n ≤ 700 → wf (pN f n A)
  | 0, A, h, _ => h
  | n + 1, A, h, ht => wf_pu (wf_pN hf n h (by omega)) (by rw [pN_0]; omega) (hf n).1 (hf n).2
theorem ce_k : ∀ k, k < 20 → (nI k - nI k / nI 4 * nI 4) = nI (k % 4) ∧ (nI 24 - nI 8 * nI (k % 4)) = nI (24 - 8 * (k % 4)) := by decide +kernel
/-- one byte of the model -/
theorem m_byte (a b c d5 e : Int32) (h : MI A S) (hw : wf A) (ht : A 0 0 < 700) (k : Nat) (hk : k < 20) (d n z : Nat) (dd : Option Value) : ∃ S1 y, MI (pu A (fv a b c d5 e k)) S1 ∧ fM S S1 ∧ S1.1 70 1 = S.1 70 1 ∧ ∃ m, m ≤ 6 ∧ ∀ n, z_R115 d (n + m) 23 z [some (.ref 70), some (.int a), some (.int b), some (.int c), some (.int d5), some (.int e), some (.int (nI k)), dd] [] S = z_R115 d n 23 z [some (.ref 70), some (.int a), some (.int b), some (.int c), some (.int d5), some (.int e), some (.int (nI (k + 1))), some (.int y)] [] S1 := by
  have h0 := hw.t
  obtain ⟨t, et⟩ : ∃ t : Nat, A 0 0 = t := ⟨(A 0 0).toNat, by omega⟩
  have key : ∀ (l : Int32) (n : Nat) (dd : Option Value), fv a b c d5 e k = bv l (24 - 8 * (k % 4)) → z_R115 d (n + 1) 76 z [some (.ref 70), some (.int a), some (.int b), some (.int c), some (.int d5), some (.int e), some (.int (nI k)), dd] [.int l] S = z_R115 d n 23 z [some (.ref 70), some (.int a), some (.int b), some (.int c), some (.int d5), some (.int e), some (.int (nI (k + 1))), some (.int l)] [] (z_w1 (z_w1 S.1 82 t (iI (fv a b c d5 e k))) 70 17 (iI ((t + 1 : Nat) : Int)), S.2) := by
    intro l n dd hl
    rw [zq_115_76, m_0 h, et, ixN (by omega) (by decide), cond_true, tN (by omega), (ce_k k hk).1, (ce_k k hk).2, bv_i, ← hl, nI_add, iI_n 1, iI_add]
    rfl
  have fin : ∀ (l : Int32) (m : Nat), m ≤ 5 → fv a b c d5 e k = bv l (24 - 8 * (k % 4)) → (∀ n, z_R115 d (n + m) 23 z [some (.ref 70), some (.int a), some (.int b), some (.int c), some (.int d5), some (.int e), some (.int (nI k)), dd] [] S = z_R115 d n 76 z [some (.ref 70), some (.int a), some (.int b), some (.int c), some (.int d5), some (.int e), some (.int (nI k)), none] [.int l] S) → ∃ S1 y, MI (pu A (fv a b c d5 e k)) S1 ∧ fM S S1 ∧ S1.1 70 1 = S.1 70 1 ∧ ∃ m, m ≤ 6 ∧ ∀ n, z_R115 d (n + m) 23 z [some (.ref 70), some (.int a), some (.int b), some (.int c), some (.int d5), some (.int e), some (.int (nI k)), dd] [] S = z_R115 d n 23 z [some (.ref 70), some (.int a), some (.int b), some (.int c), some (.int d5), some (.int e), some (.int (nI (k + 1))), some (.int y)] [] S1 := by
    intro l m hm hl hq
    refine ⟨_, l, m_pu (v := fv a b c d5 e k) h hw et (by omega), (fM_w1 (by decide) (by decide)).tr (fM_w1 (S := (_, S.2)) (by decide) (by decide)), ?_, m + 1, by omega, fun n => ?_⟩
    · dsimp only
      rw [z_w1_r, if_neg (by omega), z_w1_r, if_neg (by omega)]
    · rw [Nat.add_comm m 1, ← Nat.add_assoc, hq, key l n none hl]
  have c0 : ∀ j : Nat, j < 100 → (nI j ≤ nI k ↔ j ≤ k) := fun j hj => nI_leI (by omega) (by omega)
  by_cases g1 : k < 4
  · refine fin a 1 (by decide) (by unfold fv; rw [if_pos g1]) (fun n => ?_)
    rw [zq_115_23, if_neg (by rw [c0 20 (by decide)]; omega), if_neg (by rw [c0 4 (by decide)]; omega)]
  · by_cases g2 : k < 8
    · refine fin b 2 (by decide) (by unfold fv; rw [if_neg g1, if_pos g2]) (fun n => ?_)
      rw [zq_115_23, if_neg (by rw [c0 20 (by decide)]; omega), if_pos (by rw [c0 4 (by decide)]; omega), zq_115_40, if_neg (by rw [c0 8 (by decide)]; omega)]
    · by_cases g3 : k < 12
      · refine fin c 3 (by decide) (by unfold fv; rw [if_neg g1, if_neg g2, if_pos g3]) (fun n => ?_)
        rw [zq_115_23, if_neg (by rw [c0 20 (by decide)]; omega), if_pos (by rw [c0 4 (by decide)]; omega), zq_115_40, if_pos (by rw [c0 8 (by decide)]; omega), zq_115_51, if_neg (by rw [c0 12 (by decide)]; omega)]
      · by_cases g4 : k < 16
        · refine fin d5 4 (by decide) (by unfold fv; rw [if_neg g1, if_neg g2, if_neg g3, if_pos g4]) (fun n => ?_)
          rw [zq_115_23, if_neg (by rw [c0 20 (by decide)]; omega), if_pos (by rw [c0 4 (by decide)]; omega), zq_115_40, if_pos (by rw [c0 8 (by decide)]; omega), zq_115_51, if_pos (by rw [c0 12 (by decide)]; omega), zq_115_62, if_neg (by rw [c0 16 (by decide)]; omega)]
        · refine fin e 5 (by decide) (by unfold fv; rw [if_neg g1, if_neg g2, if_neg g3, if_neg g4]) (fun n => ?_)
          rw [zq_115_23, if_neg (by rw [c0 20 (by decide)]; omega), if_pos (by rw [c0 4 (by decide)]; omega), zq_115_40, if_pos (by rw [c0 8 (by decide)]; omega), zq_115_51, if_pos (by rw [c0 12 (by decide)]; omega), zq_115_62, if_pos (by rw [c0 16 (by decide)]; omega), zq_115_74]
theorem fv_r (a b c d e : Int32) (k : Nat) : 0 ≤ fv a b c d e k ∧ fv a b c d e k ≤ 255 := bv_r _ _
theorem m_bytes (a b c d5 e : Int32) (d z : Nat) : ∀ (j k : Nat) (A : aS) (S : z_St) (n : Nat) (dd : Option Value), k + j = 20 → 6 * j + 2 ≤ n → MI A S → wf A → A 0 0 + j ≤ 700 → ∃ S1, MI (pN (fun i => fv a b c d5 e (k + i)) j A) S1 ∧ fM S S1 ∧ S1.1 70 1 = S.1 70 1 ∧ z_R115 d n 23 z [some (.ref 70), some (.int a), some (.int b), some (.int c), some (.int d5), some (.int e), some (.int (nI k)), dd] [] S = some (.inl (some (.int (iI (A 0 0 + j)))), S1)
  | 0, k, A, S, n, dd, hk, hn, h, hw, ht => by
    obtain ⟨n, rfl⟩ : ∃ m, n = m + 2 := ⟨n - 2, by omega⟩
    refine ⟨S, h, fM.rf S, rfl, ?_⟩
    have hk : k = 20 := by omega
    subst hk
    rw [zq_115_23, if_pos (nI_le (by decide) (by decide)), zq_115_120, m_0 h, show A 0 0 + ((0 : Nat) : Int) = A 0 0 by omega]
  | j + 1, k, A, S, n, dd, hk, hn, h, hw, ht => by
    obtain ⟨S1, y, m1, f1, g1, m, hm, e1⟩ := m_byte a b c d5 e h hw (by omega) k (by omega) d 0 z dd
    obtain ⟨n, rfl⟩ : ∃ q, n = q + m := ⟨n - m, by omega⟩
    have w1 := wf_pu (v := fv a b c d5 e k) hw (by omega) (fv_r _ _ _ _ _ _).1 (fv_r _ _ _ _ _ _).2
    obtain ⟨S2, m2, f2, g2, e2⟩ := m_bytes a b c d5 e d z j (k + 1) _ S1 n (some (.int y)) (by omega) (by omega) m1 w1 (by rw [pu_0]; omega)
    refine ⟨S2, ?_, f1.tr f2, g2.trans g1, ?_⟩
    · have e3 : ∀ (j : Nat) (f : Nat → Int) (A : aS), pN (fun i => f (i + 1)) j (pu A (f 0)) = pN f (j + 1) A := by
        intro j f A
        induction j with
        | zero => rfl
        | succ j ih =>
          show pu (pN (fun i => f (i + 1)) j (pu A (f 0))) (f (j + 1)) = pu (pN f (j + 1) A) (f (j + 1))
          rw [ih]
      have e4 := e3 j (fun i => fv a b c d5 e (k + i)) A
      have e5 : (fun i => fv a b c d5 e (k + (i + 1))) = fun i => fv a b c d5 e (k + 1 + i) := by
        funext i
        congr 1
        omega
      have e4' : pN (fun i => fv a b c d5 e (k + (i + 1))) j (pu A (fv a b c d5 e k)) = pN (fun i => fv a b c d5 e (k + i)) (j + 1) A := e4
      rw [e5] at e4'
      rw [← e4']
      exact m2
    · have e9 : A 0 0 + 1 + (j : Int) = A 0 0 + ((j + 1 : Nat) : Int) := by omega
      rw [e1, e2, pu_0, e9]
theorem o_feed (a b c d5 e : Int32) : ∀ S, AI S → ∃ (y : Int32) (S1 S2 : z_St), z_ew 1000 74 [.ref 0, .int a, .int b, .int c, .int d5, .int e] S = some (.inl (some (.int y)), S1) ∧ z_ew 1000 115 [.ref 70, .int a, .int b, .int c, .int d5, .int e] S1 = some (.inl (some (.int y)), S2) ∧ AI S2 := by
  intro S ⟨p, A, hC, hM, hw⟩
  have h0 := hw.t
  by_cases q : A 0 0 + 20 ≤ 700
  · obtain ⟨S1, c1, w1, f1, e1⟩ := c_put hC hw (by omega) a 998
    obtain ⟨S2, c2, w2, f2, e2⟩ := c_put c1 w1 (by simp only [pu_0]; omega) b 998
    obtain ⟨S3, c3, w3, f3, e3⟩ := c_put c2 w2 (by simp only [pu_0]; omega) c 998
    obtain ⟨S4, c4, w4, f4, e4⟩ := c_put c3 w3 (by simp only [pu_0]; omega) d5 998
    obtain ⟨S5, c5, w5, f5, e5⟩ := c_put c4 w4 (by simp only [pu_0]; omega) e 998
    have f : fC S S5 := (((f1.tr f2).tr f3).tr f4).tr f5
    have hM5 : MI A (z_w1 S5.1 70 1 (nI 0), S5.2) := (hM.c hw f).code hw
    obtain ⟨S6, m6, f6, g6, e6⟩ := m_bytes a b c d5 e 999 0 20 0 A _ 999998 none (by omega) (by omega) hM5 hw (by omega)
    have hA : pN (fun i => fv a b c d5 e (0 + i)) 20 A = pu (pu (pu (pu (pu (pu (pu (pu (pu (pu (pu (pu (pu (pu (pu (pu (pu (pu (pu (pu A (bv a 24)) (bv a 16)) (bv a 8)) (bv a 0)) (bv b 24)) (bv b 16)) (bv b 8)) (bv b 0)) (bv c 24)) (bv c 16)) (bv c 8)) (bv c 0)) (bv d5 24)) (bv d5 16)) (bv d5 8)) (bv d5 0)) (bv e 24)) (bv e 16)) (bv e 8)) (bv e 0) := rfl
    rw [hA] at m6
    refine ⟨iI (A 0 0 + 20), S5, S6, ?_, ?_, p, _, c5.m ((fM_w1 (by decide) (by decide)).tr f6), m6, w5⟩
    · rw [zx_74 999, c_0 hC, iI_n, iI_n, iI_add, if_pos (by rw [iI_le (by omega) (by omega) (by decide) (by decide)]; omega), zq_74_15, e1, clv_v, e2, clv_v, e3, clv_v, e4, clv_v, e5, clv_v, c_0 c5]
      simp only [pu_0]
      have e9 : A 0 0 + 1 + 1 + 1 + 1 + 1 + 1 + 1 + 1 + 1 + 1 + 1 + 1 + 1 + 1 + 1 + 1 + 1 + 1 + 1 + 1 = A 0 0 + 20 := by omega
      rw [e9]
    · rw [zx_115 999, m_0 (hM.c hw f), iI_n 20, iI_n 700, iI_add, if_pos (by rw [iI_le (by omega) (by omega) (by decide) (by decide)]; omega), zq_115_20, e6]
      rfl
  · refine ⟨iI (-1), S, (z_w1 S.1 70 1 (nI 0), S.2), ?_, ?_, p, A, hC.m (fM_w1 (by decide) (by decide)), hM.code hw, hw⟩
    · rw [zx_74 999, c_0 hC, iI_n 20, iI_n 700, iI_add, if_neg (by rw [iI_le (by omega) (by omega) (by decide) (by decide)]; omega)]
      rfl
    · rw [zx_115 999, m_0 hM, iI_n 20, iI_n 700, iI_add, if_neg (by rw [iI_le (by omega) (by omega) (by decide) (by decide)]; omega)]
      rfl
end FEE
