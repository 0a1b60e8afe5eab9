/-! drop -/
def dst (y P s : Int) : Bool := decide (y ≠ 0 ∧ 1 ≤ s + y ∧ s + y ≤ P)
def dv (y P s : Int) : Int := if s ≤ 0 then s else if dst y P s = true then s + y else -1
def dlo (y P s : Int) : Int := if s ≤ 0 then 0 else if dst y P s = true then 0 else 1
def dr (b : Nat) (y P : Int) : Nat → Nat → aS → aS
  | 0, _, A => A
  | k + 1, i, A => dr b y P k (i + 1) (aU A 22 (8 * b + i) (dv y P (A 22 (8 * b + i))))
def dl (b : Nat) (y P : Int) : Nat → Nat → aS → Int
  | 0, _, _ => 0
  | k + 1, i, A => dlo y P (A 22 (8 * b + i)) + dl b y P k (i + 1) (aU A 22 (8 * b + i) (dv y P (A 22 (8 * b + i))))
theorem aU_same (A : aS) (x j : Nat) : aU A x j (A x j) = A := by
  funext y k
  rw [aU_r]
  by_cases h : y = x ∧ k = j
  · rw [if_pos h, h.1, h.2]
  · rw [if_neg h]
theorem dv_le {y P s : Int} (h : s ≤ 0) : dv y P s = s := if_pos h
theorem dlo_le {y P s : Int} (h : s ≤ 0) : dlo y P s = 0 := if_pos h
section DRO
variable {p : Nat} {A : aS} {S : z_St}
theorem wf_22 {j : Nat} {v : Int} (h : wf A) (hj : j < 80) (h1 : -1 ≤ v) (h2 : v ≤ 401) (h3 : v = 0 ↔ A 22 j = 0) : wf (aU A 22 j v) := by
  obtain ⟨g1, ⟨a1, a2, a3, a4, a5, a6, a7, a8, a9, a10, a11, a12, a13, a14⟩, g3⟩ := h
  refine ⟨g1, ⟨a1, a2, a3, a4, a5, a6, fun k hk => ?_, fun b r hb hr hq => ?_, a9, a10, a11, a12, a13, a14⟩, g3⟩
  · obtain ⟨c1, c2, c3, c4, c5⟩ := a7 k hk
    show (-1 ≤ aU A 22 j v 22 k ∧ aU A 22 j v 22 k ≤ 401) ∧ (0 ≤ A 23 k ∧ A 23 k ≤ 401) ∧ (A 23 k = 0 ↔ aU A 22 j v 22 k = 0) ∧ A 24 k = (rct A k : Int) ∧ (-1 ≤ A 25 k ∧ A 25 k ≤ 8784)
    rw [aU_r]
    by_cases q : k = j
    · subst q
      rw [if_pos ⟨rfl, rfl⟩]
      exact ⟨⟨h1, h2⟩, c2, c3.trans h3.symm, c4, c5⟩
    · rw [if_neg (fun e => q e.2)]
      exact ⟨c1, c2, c3, c4, c5⟩
  · obtain ⟨c1, c2⟩ := a8 b r hb hr hq
    refine ⟨?_, c2⟩
    rw [aU_r]
    by_cases q : 8 * b + r = j
    · rw [if_pos ⟨rfl, q⟩, h3, ← q]; exact c1
    · rw [if_neg (fun e => q e.2)]; exact c1
theorem dv_ok {y P s : Int} (h1 : -1 ≤ s) (h2 : s ≤ 401) (hP : P ≤ 400) : (-1 ≤ dv y P s ∧ dv y P s ≤ 401) ∧ (dv y P s = 0 ↔ s = 0) := by
  unfold dv
  by_cases q : s ≤ 0
  · rw [if_pos q]; omega
  · rw [if_neg q]
    by_cases g : dst y P s = true
    · rw [if_pos g]
      have : y ≠ 0 ∧ 1 ≤ s + y ∧ s + y ≤ P := by simpa [dst] using g
      omega
    · rw [if_neg g]; omega
theorem wf_dv (h : wf A) {j : Nat} (hj : j < 80) {y P : Int} (hP : P ≤ 400) : wf (aU A 22 j (dv y P (A 22 j))) := by
  have hs := h.s hj
  obtain ⟨⟨g1, g2⟩, g3⟩ := dv_ok (y := y) hs.1 hs.2 hP
  exact wf_22 h hj g1 g2 g3
theorem wf_dr {b : Nat} {y P : Int} (hb : b < 10) (hP : P ≤ 400) : ∀ (k i : Nat) {A : aS}, i + k ≤ 8 → wf A → wf (dr b y P k i A)
  | 0, _, _, _, h => h
  | k + 1, i, A, hi, h => wf_dr hb hP k (i + 1) (by omega) (wf_dv h (by omega) hP)
theorem dr_skip {b : Nat} {y P : Int} : ∀ (k i : Nat) (A : aS), (∀ q, i ≤ q → q < i + k → A 22 (8 * b + q) = 0) → dr b y P k i A = A ∧ dl b y P k i A = 0
  | 0, _, _, _ => ⟨rfl, rfl⟩
  | k + 1, i, A, h => by
    have h0 := h i (Nat.le_refl _) (by omega)
    have e : aU A 22 (8 * b + i) (dv y P (A 22 (8 * b + i))) = A := by
      rw [dv_le (by omega)]
      exact aU_same A 22 _
    show dr b y P k (i + 1) (aU A 22 (8 * b + i) (dv y P (A 22 (8 * b + i)))) = A ∧ dlo y P (A 22 (8 * b + i)) + dl b y P k (i + 1) (aU A 22 (8 * b + i) (dv y P (A 22 (8 * b + i)))) = 0
    rw [e, dlo_le (by omega)]
    obtain ⟨g1, g2⟩ := dr_skip k (i + 1) A (fun q h1 h2 => h q (by omega) (by omega))
    exact ⟨g1, by rw [g2]; rfl⟩
theorem dr_add {b : Nat} {y P : Int} : ∀ (k m i : Nat) (A : aS), dr b y P (k + m) i A = dr b y P m (i + k) (dr b y P k i A) ∧ dl b y P (k + m) i A = dl b y P k i A + dl b y P m (i + k) (dr b y P k i A)
  | 0, m, i, A => by
    rw [Nat.zero_add, Nat.add_zero]
    exact ⟨rfl, by show dl b y P m i A = 0 + dl b y P m i A; omega⟩
  | k + 1, m, i, A => by
    rw [show k + 1 + m = (k + m) + 1 by omega, show i + (k + 1) = i + 1 + k by omega]
    obtain ⟨g1, g2⟩ := dr_add k m (i + 1) (aU A 22 (8 * b + i) (dv y P (A 22 (8 * b + i))))
    refine ⟨g1, ?_⟩
    show dlo y P (A 22 (8 * b + i)) + dl b y P (k + m) (i + 1) _ = dlo y P (A 22 (8 * b + i)) + dl b y P k (i + 1) _ + _
    rw [g2]
    show _ = _ + dl b y P m (i + 1 + k) (dr b y P k (i + 1) (aU A 22 (8 * b + i) (dv y P (A 22 (8 * b + i)))))
    omega
theorem dr_o {b : Nat} {y P : Int} : ∀ (k i : Nat) (A : aS) (x j : Nat), (x ≠ 22 ∨ ∀ q, i ≤ q → q < i + k → j ≠ 8 * b + q) → dr b y P k i A x j = A x j
  | 0, _, _, _, _, _ => rfl
  | k + 1, i, A, x, j, h => by
    show dr b y P k (i + 1) (aU A 22 (8 * b + i) _) x j = _
    rw [dr_o k (i + 1) _ x j (h.imp id (fun g q h1 h2 => g q (by omega) (by omega))), aU_r, if_neg]
    rintro ⟨e1, e2⟩
    rcases h with h | h
    · exact h e1
    · exact h i (Nat.le_refl _) (by omega) e2
theorem dr_5 {b : Nat} {y P t : Int} : ∀ (k i : Nat) (A : aS), dr b y P k i (aU A 5 0 t) = aU (dr b y P k i A) 5 0 t ∧ dl b y P k i (aU A 5 0 t) = dl b y P k i A
  | 0, _, _ => ⟨rfl, rfl⟩
  | k + 1, i, A => by
    have e0 : aU A 5 0 t 22 (8 * b + i) = A 22 (8 * b + i) := by rw [aU_r, if_neg (by omega)]
    have e1 : ∀ v, aU (aU A 5 0 t) 22 (8 * b + i) v = aU (aU A 22 (8 * b + i) v) 5 0 t := by
      intro v
      funext z l
      simp only [aU_r]
      by_cases h : z = 22 ∧ l = 8 * b + i
      · rw [if_pos h, if_neg (by omega), if_pos h]
      · rw [if_neg h, if_neg h]
    show dr b y P k (i + 1) (aU (aU A 5 0 t) 22 (8 * b + i) (dv y P (aU A 5 0 t 22 (8 * b + i)))) = _ ∧ dlo y P (aU A 5 0 t 22 (8 * b + i)) + dl b y P k (i + 1) (aU (aU A 5 0 t) 22 (8 * b + i) (dv y P (aU A 5 0 t 22 (8 * b + i)))) = _
    rw [e0, e1]
    obtain ⟨g1, g2⟩ := dr_5 k (i + 1) (aU A 22 (8 * b + i) (dv y P (A 22 (8 * b + i))))
    rw [g1, g2]
    exact ⟨rfl, rfl⟩
theorem c_sl (h : CI p A S) (hw : wf A) {b i : Nat} (hb : b < 10) (hi : i < 8) (v : Int) : CI p (aU A 22 (8 * b + i) v) (z_w1 S.1 28 (i * 10 + b) (iI v), S.2) := by
  have e := h.w (x := 22) (j := 8 * b + i) (v := v) hw (by decide) (show 8 * b + i < 80 by omega) (by decide) (dD_u (by decide))
  have e2 : cx 22 (8 * b + i) = i * 10 + b := by show (8 * b + i) % 8 * 10 + (8 * b + i) / 8 = _; omega
  rw [e2] at e
  exact e
theorem m_sl (h : MI A S) (hw : wf A) {j : Nat} (hj : j < 80) (v : Int) : MI (aU A 22 j v) (z_w1 S.1 83 j (iI v), S.2) := by
  have e := h.w (x := 22) (j := j) (v := v) hw (by decide) (show j < 80 from hj) (by decide) (dD_u (by decide))
  have e2 : mx 22 j = j := by show 0 + 1 * j = _; omega
  rw [e2] at e
  exact e
theorem nm1 : -nI 1 = iI (-1) := rfl
theorem rs {a b : Int} {S : z_St} (h : a = b) : (some (Sum.inl (some (Value.int (iI a))), S) : z_Res) = some (Sum.inl (some (Value.int (iI b))), S) := by rw [h]
theorem c_mv {b : Nat} (hb : b < 10) {y P : Int} (hy : -50 ≤ y ∧ y ≤ 50) (hP : 0 ≤ P ∧ P ≤ 400) (d z : Nat) : ∀ (k i n : Nat) (A : aS) (S : z_St) (L : Int) (x1 x2 : Option Value), i + k = 8 → 3 * k + 2 ≤ n → CI p A S → wf A → ∃ S1, CI p (dr b y P k i A) S1 ∧ fC S S1 ∧ z_R14 (d + 1) n 6 z [some (.ref 24), some (.int (iI b)), some (.int (iI y)), some (.int (iI P)), some (.int (iI L)), some (.int (iI i)), x1, x2] [] S = some (.inl (some (.int (iI (L + dl b y P k i A)))), S1) := by
  intro k
  induction k with
  | zero =>
    intro i n A S L x1 x2 hi hn h hw
    obtain ⟨n, rfl⟩ : ∃ m, n = m + 2 := ⟨n - 2, by omega⟩
    refine ⟨S, h, fC.rf S, ?_⟩
    rw [zq_14_6, iI_n 8, if_pos (by rw [iI_le (by decide) (by decide) (by omega) (by omega)]; omega), zq_14_97]
    show _ = some (Sum.inl (some (Value.int (iI (L + 0)))), S)
    rw [Int.add_zero]
  | succ k ih =>
    intro i n A S L x1 x2 hi hn h hw
    obtain ⟨n, rfl⟩ : ∃ m, n = m + 3 := ⟨n - 3, by omega⟩
    have hs := hw.s (j := 8 * b + i) (by omega)
    have hz : dr b y P (k + 1) i A = dr b y P k (i + 1) (aU A 22 (8 * b + i) (dv y P (A 22 (8 * b + i)))) := rfl
    have hz2 : dl b y P (k + 1) i A = dlo y P (A 22 (8 * b + i)) + dl b y P k (i + 1) (aU A 22 (8 * b + i) (dv y P (A 22 (8 * b + i)))) := rfl
    have e2 : (i : Int) + ((1 : Nat) : Int) = ((i + 1 : Nat) : Int) := by omega
    rw [hz, hz2, zq_14_6, iI_n 8, if_neg (by rw [iI_le (by decide) (by decide) (by omega) (by omega)]; omega), cel, cli_i, ixN (by omega) (by decide), cond_true, cond_true, tN (by omega), c_22 h (by omega) (by omega), iI_0, iI_add, iI_n 1]
    have stay : ∀ (n : Nat) (x : Int), A 22 (8 * b + i) ≤ 0 → ∃ S1, CI p (dr b y P k (i + 1) (aU A 22 (8 * b + i) (dv y P (A 22 (8 * b + i))))) S1 ∧ fC S S1 ∧ (3 * k + 2 ≤ n → z_R14 (d + 1) (n + 2) 72 z [some (.ref 24), some (.int (iI b)), some (.int (iI y)), some (.int (iI P)), some (.int (iI L)), some (.int (iI i)), some (.int (iI ((i * 10 + b : Nat) : Int))), some (.int (iI x))] [] S = some (.inl (some (.int (iI (L + (dlo y P (A 22 (8 * b + i)) + dl b y P k (i + 1) (aU A 22 (8 * b + i) (dv y P (A 22 (8 * b + i))))))))), S1)) := by
      intro n x hq
      by_cases hn : 3 * k + 2 ≤ n
      · have ea : aU A 22 (8 * b + i) (dv y P (A 22 (8 * b + i))) = A := by rw [dv_le hq]; exact aU_same A 22 _
        rw [ea, dlo_le hq]
        obtain ⟨S1, g1, g2, g3⟩ := ih (i + 1) n A S L none none (by omega) hn h hw
        refine ⟨S1, g1, g2, fun _ => ?_⟩
        rw [zq_14_72, ixN (by omega) (by decide), cond_true, tN (by omega), c_22 h (by omega) (by omega), iI_0, if_pos (by rw [iI_le (by omega) (by omega) (by decide) (by decide)]; exact hq), zq_14_91, iI_n 1, iI_add, e2, g3]
        exact rs (by omega)
      · obtain ⟨S1, g1, g2, -⟩ := ih (i + 1) (3 * k + 2) (aU A 22 (8 * b + i) (dv y P (A 22 (8 * b + i)))) (z_w1 S.1 28 (i * 10 + b) (iI (dv y P (A 22 (8 * b + i)))), S.2) L none none (by omega) (Nat.le_refl _) (c_sl h hw hb (by omega) _) (wf_dv hw (by omega) hP.2)
        exact ⟨S1, g1, (fC_w1 (by decide)).tr g2, fun q => absurd q hn⟩
    by_cases q : A 22 (8 * b + i) ≤ 0
    · rw [if_pos (by rw [iI_le (by omega) (by omega) (by decide) (by decide)]; exact q)]
      obtain ⟨S1, g1, g2, g3⟩ := stay n (A 22 (8 * b + i) + y) q
      exact ⟨S1, g1, g2, g3 (by omega)⟩
    · rw [if_neg (by rw [iI_le (by omega) (by omega) (by decide) (by decide)]; exact q)]
      by_cases g : dst y P (A 22 (8 * b + i)) = true
      · have gg : y ≠ 0 ∧ 1 ≤ A 22 (8 * b + i) + y ∧ A 22 (8 * b + i) + y ≤ P := by simpa [dst] using g
        have ev : dv y P (A 22 (8 * b + i)) = A 22 (8 * b + i) + y := by unfold dv; rw [if_neg q, if_pos g]
        have el : dlo y P (A 22 (8 * b + i)) = 0 := by unfold dlo; rw [if_neg q, if_pos g]
        rw [ev, el, if_neg (by rw [iI_eq (by omega) (by omega) (by decide) (by decide)]; exact gg.1), if_neg (by rw [iI_lt (by omega) (by omega) (by decide) (by decide)]; omega), if_pos (by rw [iI_le (by omega) (by omega) (by omega) (by omega)]; omega)]
        have w1 := wf_dv (y := y) (P := P) hw (j := 8 * b + i) (by omega) hP.2
        rw [ev] at w1
        obtain ⟨S1, g1, g2, g3⟩ := ih (i + 1) n _ _ L none none (by omega) (by omega) (c_sl h hw hb (i := i) (by omega) (A 22 (8 * b + i) + y)) w1
        refine ⟨S1, g1, (fC_w1 (by decide)).tr g2, ?_⟩
        rw [zq_14_72, ixN (by omega) (by decide), cond_true, tN (by omega), c_22 h (by omega) (by omega), iI_0, if_neg (by rw [iI_le (by omega) (by omega) (by decide) (by decide)]; exact q), cond_true, zq_14_91, iI_n 1, iI_add, e2, g3]
        exact rs (by omega)
      · have gg : ¬ (y ≠ 0 ∧ 1 ≤ A 22 (8 * b + i) + y ∧ A 22 (8 * b + i) + y ≤ P) := by simpa [dst] using g
        have ev : dv y P (A 22 (8 * b + i)) = -1 := by unfold dv; rw [if_neg q, if_neg g]
        have el : dlo y P (A 22 (8 * b + i)) = 1 := by unfold dlo; rw [if_neg q, if_neg g]
        have w1 := wf_dv (y := y) (P := P) hw (j := 8 * b + i) (by omega) hP.2
        rw [ev] at w1
        rw [ev, el]
        obtain ⟨S1, g1, g2, g3⟩ := ih (i + 1) n _ _ (L + ((1 : Nat) : Int)) none none (by omega) (by omega) (c_sl h hw hb (i := i) (by omega) (-1)) w1
        refine ⟨S1, g1, (fC_w1 (by decide)).tr g2, ?_⟩
        have k58 : ∀ x, z_R14 (d + 1) (n + 2) 58 z [some (.ref 24), some (.int (iI b)), some (.int (iI y)), some (.int (iI P)), some (.int (iI L)), some (.int (iI i)), some (.int (iI ((i * 10 + b : Nat) : Int))), x] [] S = some (.inl (some (.int (iI (L + (1 + dl b y P k (i + 1) (aU A 22 (8 * b + i) (-1))))))), S1) := by
          intro x
          rw [zq_14_58, nm1, ixN (by omega) (by decide), cond_true, tN (by omega), zq_14_91, iI_n 1, iI_add, iI_add, e2, g3]
          exact rs (by omega)
        by_cases y0 : y = 0
        · rw [if_pos (by rw [y0])]
          exact k58 _
        · rw [if_neg (by rw [iI_eq (by omega) (by omega) (by decide) (by decide)]; exact y0)]
          by_cases y1 : A 22 (8 * b + i) + y < 1
          · rw [if_pos (by rw [iI_lt (by omega) (by omega) (by decide) (by decide)]; omega)]
            exact k58 _
          · rw [if_neg (by rw [iI_lt (by omega) (by omega) (by decide) (by decide)]; omega), if_neg (by rw [iI_le (by omega) (by omega) (by omega) (by omega)]; omega)]
            exact k58 _
end DRO
