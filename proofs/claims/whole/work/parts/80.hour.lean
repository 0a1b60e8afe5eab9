/-! a page in the model; an hour, a loan's hours -/
section HOU
variable {p : Nat} {A : aS} {S : z_St}
theorem dD_c {B B' : aS} (h : ∀ x, x ≠ 24 → B' x 0 = B x 0) (y : Nat) : dD B' y = dD B y := by
  unfold dD
  rw [h 0 (by decide), h 2 (by decide), h 3 (by decide), h 67 (by decide), h 4 (by decide), h 6 (by decide), h 7 (by decide), h 9 (by decide), h 8 (by decide), h 41 (by decide), h 43 (by decide), h 44 (by decide)]
theorem MI.x24 {B B' : aS} (h : ∀ x j, x ≠ 24 → B' x j = B x j) (hM : MI B S) : MI B' S := by
  refine ⟨fun x hx j hj => ?_, by rw [h 9 0 (by decide)]; exact hM.2⟩
  by_cases e : x = 24
  · subst e
    exact absurd hj (Nat.not_lt_zero j)
  · rw [h x j e]
    refine hM.1 x hx j ?_
    unfold mD at hj ⊢
    rwa [dD_c (fun x hx => h x 0 hx)] at hj
theorem m_hasG {F : Nat → Bool} {b r q : Nat} (hb : b < 10) (hr : r < 8) (hF : ∀ x, x < 400 → S.1 88 (401 * (8 * b + r) + x + 1) = iI (if F x = true then 1 else 0)) (hq : q < 400) (d : Nat) : z_ew (d + 2) 142 [.ref 70, .int (iI (r : Int)), .int (iI (b : Int)), .int (iI ((q + 1 : Nat) : Int))] S = some (.inl (some (.int (iI (if F q = true then 1 else 0)))), S) := by
  have e4 : nI 401 * iI ((8 * b + r : Nat) : Int) + iI ((q + 1 : Nat) : Int) = iI ((401 * (8 * b + r) + q + 1 : Nat) : Int) := by
    rw [iI_n, iI_mul, iI_add]
    congr 1
  rw [zx_142, pai, cli_i, e4, ixN (by omega) (by decide), cond_true, tN (by omega), hF q hq, rb_b, cond_true]
theorem m_rOG {F : Nat → Bool} {b r P : Nat} (hb : b < 10) (hr : r < 8) (hF : ∀ x, x < 400 → S.1 88 (401 * (8 * b + r) + x + 1) = iI (if F x = true then 1 else 0)) (hP : S.1 72 b = iI (P : Int)) (hP4 : P ≤ 400) (d z : Nat) : ∀ (j i n : Nat), i + j = P → 3 * j + 2 ≤ n → z_R150 (d + 2) n 5 z [some (.ref 70), some (.int (iI (r : Int))), some (.int (iI (b : Int))), some (.int (iI (fb_ct F i : Int))), some (.int (iI ((i + 1 : Nat) : Int)))] [] S = some (.inl (some (.int (iI (fb_ct F P : Int)))), S) := by
  intro j
  induction j with
  | zero =>
    intro i n hi hn
    obtain ⟨n, rfl⟩ : ∃ m, n = m + 2 := ⟨n - 2, by omega⟩
    have e : i = P := by omega
    subst e
    rw [zq_150_5, ixN (by omega) (by decide), cond_true, tN (by omega), hP, if_pos (by rw [iI_lt (by omega) (by omega) (by omega) (by omega)]; omega), zq_150_41]
  | succ j ih =>
    intro i n hi hn
    obtain ⟨n, rfl⟩ : ∃ m, n = m + 3 := ⟨n - 3, by omega⟩
    have e2 : ((i + 1 : Nat) : Int) + ((1 : Nat) : Int) = ((i + 1 + 1 : Nat) : Int) := by omega
    have ec := fb_ct_succ F i
    rw [zq_150_5, ixN (by omega) (by decide), cond_true, tN (by omega), hP, if_neg (by rw [iI_lt (by omega) (by omega) (by omega) (by omega)]; omega), m_hasG hb hr hF (by omega) d, cli_i]
    by_cases q : F i = true
    · rw [if_pos q] at ec
      rw [if_neg (by rw [b01]; exact fun g => g q), zq_150_33, iI_n, iI_add, iI_add, show (fb_ct F i : Int) + ((1 : Nat) : Int) = (fb_ct F (i + 1) : Int) by omega, e2]
      exact ih (i + 1) (n + 1) (by omega) (by omega)
    · rw [if_neg q] at ec
      rw [if_pos (by rw [b01]; exact q), zq_150_32, zq_150_33, iI_n, iI_n, iI_add, iI_add, show (fb_ct F i : Int) + ((0 : Nat) : Int) = (fb_ct F (i + 1) : Int) by omega, e2]
      exact ih (i + 1) n (by omega) (by omega)
theorem m_turn (hM : MI A S) (hw : wf A) {b r q : Nat} {t : Int} (hb : (b : Int) < A 2 0) (hr : (r : Int) < A 3 0) (hq : (q : Int) < A 11 b) (d : Nat) : ∃ S', z_ew (d + 4) 149 [.ref 70, .int (iI (r : Int)), .int (iI (b : Int)), .int (iI ((q + 1 : Nat) : Int)), .int (iI t)] S = some (.inl none, S') ∧ MI (mkA A b r q t) S' ∧ fM S S' ∧ fL S S' := by
  have hb2 := hw.b
  have hr2 := hw.r
  have hg := hw.pg hb
  obtain ⟨P, hP⟩ : ∃ P : Nat, A 11 b = P := ⟨(A 11 b).toNat, by omega⟩
  have hcl := hw.cl (j := 8 * b + r) (by omega)
  have e4 : nI 401 * iI ((8 * b + r : Nat) : Int) + iI ((q + 1 : Nat) : Int) = iI ((401 * (8 * b + r) + q + 1 : Nat) : Int) := by
    rw [iI_n, iI_mul, iI_add]
    congr 1
  have nb : vp_nar .boolean (nI 1) = iI 1 := nb1
  have hM1 : MI (aU A 65 (401 * (8 * b + r) + q + 1) 1) (z_w1 S.1 88 (401 * (8 * b + r) + q + 1) (iI 1), S.2) := by
    have e := hM.w (x := 65) (j := 401 * (8 * b + r) + q + 1) (v := 1) hw (by decide) (show 401 * (8 * b + r) + q + 1 < mn 65 by rw [mn_65.1]; omega) (by decide) (fun y => dD_65 y)
    have e2 : mx 65 (401 * (8 * b + r) + q + 1) = 401 * (8 * b + r) + q + 1 := by show 0 + 1 * (401 * (8 * b + r) + q + 1) = _; omega
    rw [e2] at e
    exact e
  obtain ⟨S1, hS1⟩ : ∃ S1 : z_St, S1 = (z_w1 S.1 88 (401 * (8 * b + r) + q + 1) (iI 1), S.2) := ⟨_, rfl⟩
  rw [← hS1] at hM1
  have f1 : ∀ a i, a ≠ 88 → S1.1 a i = S.1 a i := by
    intro a i ha
    rw [hS1]
    dsimp only
    rw [z_w1_r, if_neg (by omega)]
  have fm1 : fM S S1 := fun a ha => ⟨funext (fun i => f1 a i (by omega)), by rw [hS1]⟩
  have hF : ∀ x, x < 400 → S1.1 88 (401 * (8 * b + r) + x + 1) = iI (if (if x = q then true else rd A b r x) = true then 1 else 0) := by
    intro x hx
    rw [hS1]
    dsimp only
    rw [z_w1_r]
    by_cases e : x = q
    · rw [if_pos (by omega), if_pos e, if_pos rfl]
    · rw [if_neg (by omega), if_neg e, m_65 hM (by omega)]
      congr 1
      rcases hw.rd hb hr (q := x + 1) (by omega) with e | ⟨e, -, -⟩
      · have e : A 65 (401 * (8 * b + r) + x + 1) = 0 := e
        simp [rd, e]
      · have e : A 65 (401 * (8 * b + r) + x + 1) = 1 := e
        simp [rd, e]
  have hct : rd A b r q = true ∧ fb_ct (fun x => if x = q then true else rd A b r x) P = rct A (8 * b + r) ∨ ¬ rd A b r q = true ∧ fb_ct (fun x => if x = q then true else rd A b r x) P = rct A (8 * b + r) + 1 := by
    have e := rct_p hw hb hr hP
    have e2 := fb_ct_upd (rd A b r) true (i := q) (n := P) (by omega)
    by_cases g : rd A b r q = true
    · rw [if_pos g, if_pos rfl] at e2
      exact Or.inl ⟨g, by omega⟩
    · rw [if_neg g, if_pos rfl] at e2
      exact Or.inr ⟨g, by omega⟩
  have e72 : S1.1 72 b = iI (P : Int) := by rw [f1 72 b (by decide), m_11 hM hb, hP]
  have hro : z_ew (d + 3) 150 [.ref 70, .int (iI (r : Int)), .int (iI (b : Int))] S1 = some (.inl (some (.int (iI (fb_ct (fun x => if x = q then true else rd A b r x) P : Int)))), S1) := by
    rw [zx_150]
    exact m_rOG (by omega) (by omega) hF e72 (by omega) d 0 P 0 999999 (by omega) (by omega)
  have e85 : S1.1 85 (8 * b + r) = iI (A 25 (8 * b + r)) := by rw [f1 85 _ (by decide), m_25 hM (by omega)]
  have c1 : fL S S1 := ⟨f1 70 1 (by decide), fun a i h1 h2 => f1 a i (by omega)⟩
  rw [zx_149, pai, cli_i, e4, ixN (by omega) (by decide), cond_true, tN (by omega), nb, ← hS1, pai, cli_i, ixN (by omega) (by decide), cond_true, tN (by omega), e85, nm1]
  rcases hct with ⟨g, hct⟩ | ⟨g, hct⟩
  · have eA : mkA A b r q t = A := by unfold mkA; rw [if_pos g]
    have eB : aU A 65 (401 * (8 * b + r) + q + 1) 1 = A := by
      have : A 65 (401 * (8 * b + r) + q + 1) = 1 := of_decide_eq_true g
      have e9 := aU_same A 65 (401 * (8 * b + r) + q + 1)
      rw [this] at e9
      exact e9
    rw [eB] at hM1
    rw [eA]
    refine ⟨S1, ?_, hM1, fm1, c1⟩
    by_cases g2 : A 25 (8 * b + r) = -1
    · have h24 := ((hw.L.2.2.2.2.2.2.2.2.1 b r hb hr).1.1 g2)
      rw [if_pos (by rw [g2]), hro, cli_i, ixN (by omega) (by decide), cond_true, tN (by omega), e72, if_neg (by rw [iI_eq (by omega) (by omega) (by omega) (by omega)]; omega), zq_149_58]
    · rw [if_neg (by rw [iI_eq (by omega) (by omega) (by decide) (by decide)]; exact g2), zq_149_58]
  · have hlt := rd_lt hw hb hr hq g
    have g2 : A 25 (8 * b + r) = -1 := (hw.L.2.2.2.2.2.2.2.2.1 b r hb hr).1.2 hlt
    have x24 : ∀ x j, x ≠ 24 → mk1 A b r q x j = aU A 65 (401 * (8 * b + r) + q + 1) 1 x j := by
      intro x j hx
      unfold mk1
      rw [aU_r, if_neg (by omega)]
    rw [if_pos (by rw [g2]), hro, cli_i, ixN (by omega) (by decide), cond_true, tN (by omega), e72]
    unfold mkA
    rw [if_neg g]
    by_cases g3 : A 24 (8 * b + r) + 1 = A 11 b
    · rw [if_pos (by congr 1; omega), pai, cli_i, ixN (by omega) (by decide), cond_true, tN (by omega), zq_149_58, if_pos g3]
      have hD : ∀ x, x < 67 → mD (aU A 65 (401 * (8 * b + r) + q + 1) 1) x ≤ mn x := fun x hx => by
        have := mD_le hw x hx
        unfold mD at this ⊢
        rwa [dD_65]
      have e := hM1.1.w hD (x := 25) (j := 8 * b + r) (v := t) (by decide) (show 8 * b + r < 80 by omega)
      have e2 : mx 25 (8 * b + r) = 8 * b + r := by show 0 + 1 * (8 * b + r) = _; omega
      rw [e2] at e
      have hM2 : MI (aU (aU A 65 (401 * (8 * b + r) + q + 1) 1) 25 (8 * b + r) t) (z_w1 S1.1 85 (8 * b + r) (iI t), S1.2) := by
        refine ⟨?_, ?_⟩
        · intro x hx j hj
          refine e x hx j ?_
          unfold mD at hj ⊢
          rwa [dD_u (by decide)] at hj
        · show z_w1 S1.1 85 (8 * b + r) (iI t) 70 63 = _ ∨ z_w1 S1.1 85 (8 * b + r) (iI t) 70 63 = _ ∧ _
          rw [z_w1_r, if_neg (by omega)]
          exact hM1.2
      refine ⟨_, rfl, hM2.x24 (fun x j hx => ?_), fm1.tr (fM_w1 (by decide) (by decide)), c1.tr ⟨?_, fun a i h1 h2 => ?_⟩⟩
      · rw [aU_r, aU_r, x24 x j hx]
      · dsimp only
        rw [z_w1_r, if_neg (by omega)]
      · dsimp only
        rw [z_w1_r, if_neg (by omega)]
    · rw [if_neg (by rw [iI_eq (by omega) (by omega) (by omega) (by omega)]; omega), zq_149_58, if_neg g3]
      exact ⟨S1, rfl, hM1.x24 x24, fm1, c1⟩
def hrA (r b : Nat) (h : Int) (m0 : Nat) : Nat → Nat → aS → Nat × aS
  | 0, q, A => (q, A)
  | k + 1, q, A => if A 11 b ≤ q then (q, A) else if stp (mkA A b r q h) r b ((q + 1 : Nat) : Int) ((q + 1 : Nat) - (m0 : Int)) h = true then (q + 1, mkA A b r q h) else hrA r b h m0 k (q + 1) (mkA A b r q h)
def lnA (r b m0 : Nat) : Nat → Int → Nat → aS → Nat × aS
  | 0, _, q, A => (q, A)
  | k + 1, h, q, A => lnA r b m0 k (h + 1) (hrA r b h m0 (A 13 r).toNat q A).1 (hrA r b h m0 (A 13 r).toNat q A).2
theorem hrA_s {r b m0 k q : Nat} {h : Int} {A : aS} : hrA r b h m0 (k + 1) q A = if A 11 b ≤ q then (q, A) else if stp (mkA A b r q h) r b ((q + 1 : Nat) : Int) ((q + 1 : Nat) - (m0 : Int)) h = true then (q + 1, mkA A b r q h) else hrA r b h m0 k (q + 1) (mkA A b r q h) := rfl
theorem lnA_s {r b m0 k q : Nat} {h : Int} {A : aS} : lnA r b m0 (k + 1) h q A = lnA r b m0 k (h + 1) (hrA r b h m0 (A 13 r).toNat q A).1 (hrA r b h m0 (A 13 r).toNat q A).2 := rfl
/-- what an hour keeps -/
def kp (A A' : aS) : Prop := ∀ x j, x ≠ 65 → x ≠ 24 → x ≠ 25 → A' x j = A x j
theorem kp.rf (A : aS) : kp A A := fun _ _ _ _ _ => rfl
theorem kp.tr {A B C : aS} (h : kp A B) (h2 : kp B C) : kp A C := fun x j a b c => (h2 x j a b c).trans (h x j a b c)
theorem kp_mk (A : aS) (b r q : Nat) (h : Int) : kp A (mkA A b r q h) := fun _ _ a b' c => mkA_o A b r q h a b' c
theorem hr_ok {r b m0 : Nat} {h : Int} (h0 : 0 ≤ h) (h8 : h ≤ 8784) : ∀ (k q : Nat) (A : aS), wf A → (b : Int) < A 2 0 → (r : Int) < A 3 0 → q ≤ 400 → wf (hrA r b h m0 k q A).2 ∧ kp A (hrA r b h m0 k q A).2 ∧ q ≤ (hrA r b h m0 k q A).1 ∧ (hrA r b h m0 k q A).1 ≤ 400
  | 0, q, A, hw, _, _, hq => ⟨hw, kp.rf A, Nat.le_refl _, hq⟩
  | k + 1, q, A, hw, hb, hr, hq => by
    have hpg := hw.pg hb
    rw [hrA_s]
    by_cases g : A 11 b ≤ q
    · rw [if_pos g]
      exact ⟨hw, kp.rf A, Nat.le_refl _, hq⟩
    · rw [if_neg g]
      have w1 := wf_mk (h := h) hw hb hr (show (q : Int) < A 11 b by omega) h0 h8
      have k1 := kp_mk A b r q h
      have e2 := k1 2 0 (by decide) (by decide) (by decide)
      have e3 := k1 3 0 (by decide) (by decide) (by decide)
      have e11 := k1 11 b (by decide) (by decide) (by decide)
      by_cases g2 : stp (mkA A b r q h) r b ((q + 1 : Nat) : Int) ((q + 1 : Nat) - (m0 : Int)) h = true
      · rw [if_pos g2]
        exact ⟨w1, k1, Nat.le_succ q, by show q + 1 ≤ 400; omega⟩
      · rw [if_neg g2]
        obtain ⟨a1, a2, a3, a4⟩ := hr_ok (r := r) (b := b) (m0 := m0) h0 h8 k (q + 1) (mkA A b r q h) w1 (by omega) (by omega) (by omega)
        exact ⟨a1, k1.tr a2, by omega, by omega⟩
theorem ln_ok {r b m0 : Nat} : ∀ (k : Nat) (h : Int) (q : Nat) (A : aS), 0 ≤ h → h + k ≤ 8784 → wf A → (b : Int) < A 2 0 → (r : Int) < A 3 0 → q ≤ 400 → wf (lnA r b m0 k h q A).2 ∧ kp A (lnA r b m0 k h q A).2 ∧ q ≤ (lnA r b m0 k h q A).1 ∧ (lnA r b m0 k h q A).1 ≤ 400
  | 0, h, q, A, _, _, hw, _, _, hq => ⟨hw, kp.rf A, Nat.le_refl _, hq⟩
  | k + 1, h, q, A, h0, h8, hw, hb, hr, hq => by
    rw [lnA_s]
    obtain ⟨a1, a2, a3, a4⟩ := hr_ok (r := r) (b := b) (m0 := m0) (h := h) h0 (by omega) (A 13 r).toNat q A hw hb hr hq
    have e2 := a2 2 0 (by decide) (by decide) (by decide)
    have e3 := a2 3 0 (by decide) (by decide) (by decide)
    have e11 := a2 11 b (by decide) (by decide) (by decide)
    obtain ⟨b1, b2, b3, b4⟩ := ln_ok (r := r) (b := b) (m0 := m0) k (h + 1) (hrA r b h m0 (A 13 r).toNat q A).1 (hrA r b h m0 (A 13 r).toNat q A).2 (by omega) (by omega) a1 (by omega) (by omega) (by omega)
    exact ⟨b1, a2.tr b2, by omega, by omega⟩
theorem c_hr {r b m0 : Nat} {h : Int} (h0 : 0 ≤ h) (h8 : h ≤ 8784) (d z : Nat) {P pc : Nat} (hP4 : P ≤ 400) (hpc : pc ≤ 60) : ∀ (k i n q : Nat) (A : aS) (S : z_St) (x4 : Option Value), i + k = pc → k + 3 ≤ n → q ≤ 400 → A 13 r = pc → A 11 b = P → wf A → (b : Int) < A 2 0 → (r : Int) < A 3 0 → CI p A S → ∃ S', z_R108 (d + 4) n 28 z [some (.ref 0), some (.int (iI (r : Int))), some (.int (iI (b : Int))), some (.int (iI ((m0 + 1 : Nat) : Int))), x4, some (.int (iI h)), some (.int (iI ((r * 10 + b : Nat) : Int))), some (.int (iI (P : Int))), some (.int (iI ((q + 1 : Nat) : Int))), some (.int (nI 0)), some (.int (iI (i : Int)))] [] S = some (.inl (some (.int (iI (((hrA r b h m0 k q A).1 + 1 : Nat) : Int)))), S') ∧ CI p (hrA r b h m0 k q A).2 S' ∧ fC S S' := by
  intro k
  induction k with
  | zero =>
    intro i n q A S x4 hi hn hq h13 h11 hw hb hr hC
    obtain ⟨n, rfl⟩ : ∃ m, n = m + 2 := ⟨n - 2, by omega⟩
    have hr2 := hw.r
    refine ⟨S, ?_, hC, fC.rf S⟩
    rw [zq_108_28, hC.p1, hC.p2, hC.p3, hC.px (by decide) (by decide) hC.pl.2.2.1 (show r < 8 by omega) (by decide), tN (by omega), c_13 hC hr, h13]
    simp only [cond_false, cond_true]
    rw [if_pos (by rw [iI_le (by omega) (by omega) (by omega) (by omega)]; omega), zq_108_96]
    rfl
  | succ k ih =>
    intro i n q A S x4 hi hn hq h13 h11 hw hb hr hC
    obtain ⟨n, rfl⟩ : ∃ m, n = m + 3 := ⟨n - 3, by omega⟩
    have hr2 := hw.r
    rw [zq_108_28, hC.p1, hC.p2, hC.p3, hC.px (by decide) (by decide) hC.pl.2.2.1 (show r < 8 by omega) (by decide), tN (by omega), c_13 hC hr, h13]
    simp only [cond_false, cond_true]
    rw [if_neg (by rw [iI_le (by omega) (by omega) (by omega) (by omega)]; omega), hrA_s]
    by_cases g : A 11 b ≤ q
    · rw [if_pos (by rw [iI_lt (by omega) (by omega) (by omega) (by omega)]; omega), zq_108_96, if_pos g]
      exact ⟨S, rfl, hC, fC.rf S⟩
    · obtain ⟨S1, g1, g2, g3⟩ := c_mark (t := h) hC hw hb hr (show (q : Int) < A 11 b by omega) (d + 2)
      rw [h11] at g1
      have w1 := wf_mk (h := h) hw hb hr (show (q : Int) < A 11 b by omega) h0 h8
      have k1 := kp_mk A b r q h
      have e2 := k1 2 0 (by decide) (by decide) (by decide)
      have e3 := k1 3 0 (by decide) (by decide) (by decide)
      have e11 := k1 11 b (by decide) (by decide) (by decide)
      have e13 := k1 13 r (by decide) (by decide) (by decide)
      obtain ⟨S2, g4, g5, g6⟩ := c_stop (m := (q + 1 : Nat) - (m0 : Int)) g2 w1 (r := r) (b := b) (g := ((q + 1 : Nat) : Int)) (h := h) (by omega) (by omega) (by omega) ⟨h0, h8⟩ d
      have em : ((q + 1 : Nat) : Int) - ((m0 + 1 : Nat) : Int) + ((1 : Nat) : Int) = (q + 1 : Nat) - (m0 : Int) := by omega
      have ea : ((q + 1 : Nat) : Int) + ((1 : Nat) : Int) = ((q + 1 + 1 : Nat) : Int) := by omega
      have eb : (i : Int) + ((1 : Nat) : Int) = ((i + 1 : Nat) : Int) := by omega
      rw [if_neg (by rw [iI_lt (by omega) (by omega) (by omega) (by omega)]; omega), if_pos (by rfl), g1, clv_v, iI_n 1, iI_sub, iI_add, em, g4, cli_i, iI_add, iI_add, ea, eb, if_neg g]
      by_cases g7 : stp (mkA A b r q h) r b ((q + 1 : Nat) : Int) ((q + 1 : Nat) - (m0 : Int)) h = true
      · rw [if_pos g7, if_pos g7]
        have hr4 : z_R108 (d + 4) (n + 2) 28 z [some (.ref 0), some (.int (iI (r : Int))), some (.int (iI (b : Int))), some (.int (iI ((m0 + 1 : Nat) : Int))), none, some (.int (iI h)), some (.int (iI ((r * 10 + b : Nat) : Int))), some (.int (iI (P : Int))), some (.int (iI ((q + 1 + 1 : Nat) : Int))), some (.int (iI 1)), some (.int (iI ((i + 1 : Nat) : Int)))] [] S2 = some (.inl (some (.int (iI ((q + 1 + 1 : Nat) : Int)))), S2) := by
          rw [zq_108_28, g5.p1, g5.p2, g5.p3, g5.px (by decide) (by decide) g5.pl.2.2.1 (show r < 8 by omega) (by decide), tN (by omega), c_13 g5 (by omega), e13, h13]
          simp only [cond_false, cond_true]
          by_cases u1 : pc ≤ i + 1
          · rw [if_pos (by rw [iI_le (by omega) (by omega) (by omega) (by omega)]; omega), zq_108_96]
          · rw [if_neg (by rw [iI_le (by omega) (by omega) (by omega) (by omega)]; omega)]
            by_cases u2 : P < q + 1 + 1
            · rw [if_pos (by rw [iI_lt (by omega) (by omega) (by omega) (by omega)]; omega), zq_108_96]
            · rw [if_neg (by rw [iI_lt (by omega) (by omega) (by omega) (by omega)]; omega), if_neg n10, zq_108_96]
        exact ⟨S2, hr4, g5, g3.tr g6⟩
      · rw [if_neg g7, if_neg g7]
        obtain ⟨S3, g8, g9, g10⟩ := ih (i + 1) (n + 2) (q + 1) (mkA A b r q h) S2 none (by omega) (by omega) (by omega) (by omega) (by omega) w1 (by omega) (by omega) g5
        exact ⟨S3, g8, g9, (g3.tr g6).tr g10⟩
end HOU
