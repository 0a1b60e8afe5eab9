/-! the readers of a look: the class, and the bits -/
def QQ (A : aS) (b j0 x : Nat) : Prop := ∃ w, w ∈ wyA A b ∧ w.getD j0 0 = x
def oo (M : Nat) : Nat → Int
  | 0 => -1
  | i + 1 => if M = 2 ^ i then i else oo M i
theorem oo_s {M i : Nat} : oo M (i + 1) = if M = 2 ^ i then (i : Int) else oo M i := rfl
theorem eq_t : ∀ M : Nat, M < 256 → ∀ i : Nat, i < 8 → (iI (M : Int) = nI 1 <<< (iI (i : Int) &&& 31) ↔ M = 2 ^ i) := by decide +kernel
theorem wy_len {K : okT} {Rs : List Nat} : ∀ {ls : List Nat} {s : Nat → Option Nat} {w : List Nat}, w ∈ wy K Rs ls s → w.length = ls.length ∧ ∀ x, x ∈ w → x ∈ Rs
  | [], s, w, h => by
    have h : w ∈ [[]] := h
    rw [List.mem_singleton] at h
    subst h
    exact ⟨rfl, fun x hx => by cases hx⟩
  | l :: t, s, w, h => by
    have h : w ∈ Rs.flatMap (fun r => if K r (s r) l = true then (wy K Rs t (sg s r l)).map (fun w => r :: w) else []) := h
    obtain ⟨r, hr, h⟩ := List.mem_flatMap.mp h
    split at h
    · obtain ⟨v, hv, rfl⟩ := List.mem_map.mp h
      have ih := wy_len hv
      refine ⟨by rw [List.length_cons, List.length_cons, ih.1], fun x hx => ?_⟩
      rcases List.mem_cons.mp hx with rfl | hx
      · exact hr
      · exact ih.2 x hx
    · cases h
theorem wyA_len {A : aS} {b : Nat} {w : List Nat} (h : w ∈ wyA A b) : w.length = (rv A b (A 6 0).toNat).length ∧ ∀ x, x ∈ w → x < (A 3 0).toNat := by
  have := wy_len h
  rw [List.length_reverse] at this
  exact ⟨this.1, fun x hx => List.mem_range.mp (this.2 x hx)⟩
theorem getD_mem {w : List Nat} {j : Nat} (h : j < w.length) : w.getD j 0 ∈ w := by
  rw [List.getD_eq_getElem?_getD, List.getElem?_eq_getElem h]
  exact List.getElem_mem h
theorem QQ_r {A : aS} {b j0 x : Nat} (h : QQ A b j0 x) (hj : j0 < (rv A b (A 6 0).toNat).length) : x < (A 3 0).toNat := by
  obtain ⟨w, h1, rfl⟩ := h
  have := wyA_len h1
  exact this.2 _ (getD_mem (by omega))
theorem QQ_hp {A : aS} {b j0 r : Nat} (hj : j0 < (rv A b (A 6 0).toNat).length) (hr : r < (A 3 0).toNat) : (∃ m, m < 2 ^ (rv A b (A 6 0).toNat).length ∧ m.testBit j0 = true ∧ hpB A b r m) ↔ QQ A b j0 r := by
  constructor
  · rintro ⟨m, _, h2, w, h3, rfl⟩
    have := wyA_len h3
    exact ⟨w, h3, (mo_bit w j0 (by omega)).mp h2⟩
  · rintro ⟨w, h1, h2⟩
    have h3 := wyA_len h1
    have h4 := wy_f (cK A b (A 4 0).toNat) (List.range (A 3 0).toNat) (List.mem_range.mpr hr) (rv A b (A 6 0).toNat).reverse s0 w h1
    rw [List.length_reverse] at h4
    exact ⟨mo r w, h4.2.1, (mo_bit w j0 (by omega)).mpr h2, w, h1, rfl⟩
theorem my_bit {j x : Nat} : ∀ W : List (List Nat), (myB j W).testBit x = true ↔ ∃ w, w ∈ W ∧ w.getD j 0 = x
  | [] => by
    show (0 : Nat).testBit x = true ↔ _
    rw [Nat.zero_testBit]
    exact ⟨fun e => (by cases e), fun ⟨w, h, _⟩ => by cases h⟩
  | w :: t => by
    have ih := my_bit (j := j) (x := x) t
    show (myB j t ||| 2 ^ w.getD j 0).testBit x = true ↔ _
    rw [Nat.testBit_or, Nat.testBit_two_pow, Bool.or_eq_true, ih, decide_eq_true_iff]
    constructor
    · rintro (⟨v, h1, h2⟩ | h)
      · exact ⟨v, List.mem_cons_of_mem w h1, h2⟩
      · exact ⟨w, List.mem_cons_self, h⟩
    · rintro ⟨v, h1, h2⟩
      rcases List.mem_cons.mp h1 with rfl | h1
      · exact Or.inr h2
      · exact Or.inl ⟨v, h1, h2⟩
section RDR
variable {p : Nat} {A : aS} {S : z_St}
theorem c_mhL {b r l j0 : Nat} (hw : wf A) (hG : GG A p b (A 4 0).toNat (rv A b (A 6 0).toNat) S) (hF : F62 A b (A 4 0).toNat (rv A b (A 6 0).toNat) S (A 3 0).toNat 0) (hN : N63 A b (A 4 0).toNat (rv A b (A 6 0).toNat) (rsL (r : Int) (A 3 0).toNat) S) (hr : r < (A 3 0).toNat) (hj0 : j0 < (rv A b (A 6 0).toNat).length) (hl : (rv A b (A 6 0).toNat).reverse.getD j0 0 = l) (d z : Nat) : ∀ (k m n : Nat) (v : Int), m + k = 2 ^ (rv A b (A 6 0).toNat).length → 3 * k + 2 ≤ n → ((v = 1 ∧ ∃ m', m' < m ∧ m'.testBit j0 = true ∧ hpB A b r m') ∨ (v = 0 ∧ ¬ ∃ m', m' < m ∧ m'.testBit j0 = true ∧ hpB A b r m')) → ∃ v' : Int, z_R57 (d + 2) n 10 z [some (.ref 55), some (.int (iI (r : Int))), some (.int (iI (l : Int))), some (.int (iI v)), some (.int (iI (m : Int)))] [] S = some (.inl (some (.int (iI v'))), S) ∧ ((v' = 1 ∧ QQ A b j0 r) ∨ (v' = 0 ∧ ¬ QQ A b j0 r)) := by
  have hk6 := hw.k
  have h7 := (oks_rv hw (b := b)).1
  have h6 : 2 ^ (rv A b (A 6 0).toNat).length ≤ 2 ^ 6 := Nat.pow_le_pow_right (by decide) (by omega)
  have h64 := (all_t _ h7).2
  have hro := RO_rv (b := b) (but := -1) hw
  rw [rvb_e] at hro
  have inj := hro.inj
  rw [List.length_reverse] at inj
  have h24 : ∀ y, y ∈ rv A b (A 6 0).toNat → y < 24 := fun y hy => by
    have := hro.2.1 y (List.mem_reverse.mpr hy)
    omega
  intro k
  induction k with
  | zero =>
    intro m n v hm hn hv
    obtain ⟨n, rfl⟩ : ∃ q, n = q + 2 := ⟨n - 2, by omega⟩
    rw [Nat.add_zero] at hm
    rw [hm, QQ_hp hj0 hr] at hv
    refine ⟨v, ?_, hv⟩
    have hrb : z_rb (some .boolean) (iI v) = true := by
      rcases hv with ⟨rfl, _⟩ | ⟨rfl, _⟩
      · exact rbn1
      · exact rbn0
    rw [zq_57_10, c_all hG h7 (d + 1), cli_i, if_pos (by rw [iI_lt (by omega) (by omega) (by omega) (by omega)]; omega), zq_57_55, hrb, cond_true]
  | succ k ih =>
    intro m n v hm hn hv
    obtain ⟨n, rfl⟩ : ∃ q, n = q + 3 := ⟨n - 3, by omega⟩
    have e2 : (m : Int) + ((1 : Nat) : Int) = ((m + 1 : Nat) : Int) := by omega
    have hz := c_hds (m := m) (l := l) hG.2.1 h7 (by omega) hj0 hl h24 inj (d + 1) 0 (rv A b (A 6 0).toNat).length 0 999999 (by omega) (by omega)
    have hz2 : z_ew (d + 2) 58 [.ref 55, .int (iI (m : Int)), .int (iI (l : Int))] S = some (.inl (some (.int (bI (m.testBit j0)))), S) := by
      rw [zx_58]
      rw [decide_eq_false (show ¬ j0 < 0 by omega), Bool.false_and] at hz
      exact hz
    have skip : ∀ n', 3 * k + 2 ≤ n' → (v = 0) → ¬ (m.testBit j0 = true ∧ hpB A b r m) → ∃ v' : Int, z_R57 (d + 2) (n' + 2) 47 z [some (.ref 55), some (.int (iI (r : Int))), some (.int (iI (l : Int))), some (.int (iI v)), some (.int (iI (m : Int)))] [] S = some (.inl (some (.int (iI v'))), S) ∧ ((v' = 1 ∧ QQ A b j0 r) ∨ (v' = 0 ∧ ¬ QQ A b j0 r)) := by
      intro n' hn' hv0 hno
      rw [zq_57_47, zq_57_48, iI_n 1, iI_add, e2]
      refine ih (m + 1) n' 0 (by omega) hn' (Or.inr ⟨rfl, ?_⟩)
      rintro ⟨m', h1, h2⟩
      by_cases e : m' = m
      · subst e
        exact hno h2
      · rcases hv with ⟨hv1, _⟩ | ⟨_, hv1⟩
        · omega
        · exact hv1 ⟨m', by omega, h2⟩
    have take : ∀ n', 3 * k + 2 ≤ n' → (∃ m', m' < m + 1 ∧ m'.testBit j0 = true ∧ hpB A b r m') → ∃ v' : Int, z_R57 (d + 2) (n' + 2) 43 z [some (.ref 55), some (.int (iI (r : Int))), some (.int (iI (l : Int))), some (.int (iI v)), some (.int (iI (m : Int)))] [] S = some (.inl (some (.int (iI v'))), S) ∧ ((v' = 1 ∧ QQ A b j0 r) ∨ (v' = 0 ∧ ¬ QQ A b j0 r)) := by
      intro n' hn' hy
      rw [zq_57_43, zq_57_48, iI_n 1, iI_add, e2]
      exact ih (m + 1) n' 1 (by omega) hn' (Or.inl ⟨rfl, hy⟩)
    rw [zq_57_10, c_all hG h7 (d + 1), cli_i, if_neg (by rw [iI_lt (by omega) (by omega) (by omega) (by omega)]; omega)]
    rcases hv with ⟨rfl, m', g1, g2⟩ | ⟨rfl, g⟩
    · rw [if_neg n10]
      exact take n (by omega) ⟨m', by omega, g2⟩
    · rw [if_pos z00, hz2, cli_i]
      by_cases q : m.testBit j0 = true
      · obtain ⟨u, hu1, hu2⟩ := c_hap hw hG hF hN hr (show m < 2 ^ (rv A b (A 6 0).toNat).length by omega) d
        rw [q, if_neg (by decide +kernel), hu1, cli_i]
        rcases hu2 with ⟨rfl, hp⟩ | ⟨rfl, hp⟩
        · rw [if_neg n10]
          exact take n (by omega) ⟨m, by omega, q, hp⟩
        · rw [if_pos z00]
          exact skip n (by omega) rfl (fun e => hp e.2)
      · rw [Bool.eq_false_iff.mpr q, if_pos (by rfl)]
        exact skip n (by omega) rfl (fun e => q e.1)
theorem c_roL {b l j0 : Nat} (hw : wf A) (hj0 : j0 < (rv A b (A 6 0).toNat).length) (hl : (rv A b (A 6 0).toNat).reverse.getD j0 0 = l) (d z : Nat) : ∀ (k r n : Nat) (S : z_St) (M : Nat), r + k = (A 3 0).toNat → 2 * k + 2 ≤ n → GG A p b (A 4 0).toNat (rv A b (A 6 0).toNat) S → F62 A b (A 4 0).toNat (rv A b (A 6 0).toNat) S (A 3 0).toNat 0 → M < 256 → (∀ x, M.testBit x = true ↔ x < r ∧ QQ A b j0 x) → ∃ (S' : z_St) (M' : Nat), z_R44 (d + 4) n 4 z [some (.ref 55), some (.int (iI (l : Int))), some (.int (iI (M : Int))), some (.int (iI (r : Int)))] [] S = some (.inl (some (.int (iI (M' : Int)))), S') ∧ M' < 256 ∧ (∀ x, M'.testBit x = true ↔ QQ A b j0 x) ∧ (∀ a i, a ≠ 63 → S'.1 a i = S.1 a i) ∧ S'.2 = S.2 := by
  have hr2 := hw.r
  have h7 := (oks_rv hw (b := b)).1
  have h64 := (all_t _ h7).2
  intro k
  induction k with
  | zero =>
    intro r n S M hk hn hG hF hM hx
    obtain ⟨n, rfl⟩ : ∃ q, n = q + 2 := ⟨n - 2, by omega⟩
    obtain ⟨g1, g2⟩ := hG.2.1.p1 hG.1
    refine ⟨S, M, ?_, hM, fun x => ?_, fun _ _ _ => rfl, rfl⟩
    · rw [zq_44_4, g1, cond_false, g2, hG.1.p3, cond_true, c_3 hG.1, if_pos (by rw [iI_le (by omega) (by omega) (by omega) (by omega)]; omega), zq_44_36]
    · rw [hx x]
      exact ⟨fun h => h.2, fun h => ⟨by have := QQ_r h hj0; omega, h⟩⟩
  | succ k ih =>
    intro r n S M hk hn hG hF hM hx
    obtain ⟨n, rfl⟩ : ∃ q, n = q + 2 := ⟨n - 2, by omega⟩
    have e2 : (r : Int) + ((1 : Nat) : Int) = ((r + 1 : Nat) : Int) := by omega
    obtain ⟨g1, g2⟩ := hG.2.1.p1 hG.1
    obtain ⟨S1, a1, a2, a3, a4⟩ := c_split (left := (r : Int)) hw h7 (by omega) hG hF d
    have hG1 := hG.f (fun a i h => a3 a i (by omega)) a4
    have hF1 := hF.f (S' := S1) (fun i => a3 62 i (by decide))
    obtain ⟨v, b1, b2⟩ := c_mhL (r := r) (l := l) hw hG1 hF1 a2 (by omega) hj0 hl (d + 1) 0 (2 ^ (rv A b (A 6 0).toNat).length - 1) 1 999999 0 (by omega) (by omega) (Or.inr ⟨rfl, by
      rintro ⟨m', h1, h2, _⟩
      have : m' = 0 := by omega
      subst this
      rw [Nat.zero_testBit] at h2
      cases h2⟩)
    have hz : z_ew (d + 4) 57 [.ref 55, .int (iI (r : Int)), .int (iI (l : Int))] S = some (.inl (some (.int (iI v))), S1) := by
      rw [zx_57, a1, clv_v]
      exact b1
    rw [zq_44_4, g1, cond_false, g2, hG.1.p3, cond_true, c_3 hG.1, if_neg (by rw [iI_le (by omega) (by omega) (by omega) (by omega)]; omega), hz, cli_i]
    rcases b2 with ⟨rfl, hq⟩ | ⟨rfl, hq⟩
    · obtain ⟨S', M', c1, c2, c3, c4, c5⟩ := ih (r + 1) n S1 (M ||| 2 ^ r) (by omega) (by omega) hG1 hF1 (or8 hM (by omega)) (fun x => by
        rw [Nat.testBit_or, Nat.testBit_two_pow, Bool.or_eq_true, decide_eq_true_iff, hx x]
        constructor
        · rintro (⟨h1, h2⟩ | rfl)
          · exact ⟨by omega, h2⟩
          · exact ⟨by omega, hq⟩
        · rintro ⟨h1, h2⟩
          by_cases e : r = x
          · exact Or.inr e
          · exact Or.inl ⟨by omega, h2⟩)
      refine ⟨S', M', ?_, c2, c3, fun a i h => (c4 a i h).trans (a3 a i h), c5.trans a4⟩
      rw [if_neg n10, show iI (M : Int) ||| (nI 1 <<< (iI (r : Int) &&& 31)) = iI ((M ||| 2 ^ r : Nat) : Int) from bor_t M hM r (by omega), zq_44_30, iI_n 1, iI_add, e2]
      exact c1
    · obtain ⟨S', M', c1, c2, c3, c4, c5⟩ := ih (r + 1) n S1 M (by omega) (by omega) hG1 hF1 hM (fun x => by
        rw [hx x]
        constructor
        · rintro ⟨h1, h2⟩
          exact ⟨by omega, h2⟩
        · rintro ⟨h1, h2⟩
          by_cases e : r = x
          · subst e
            exact absurd h2 hq
          · exact ⟨by omega, h2⟩)
      refine ⟨S', M', ?_, c2, c3, fun a i h => (c4 a i h).trans (a3 a i h), c5.trans a4⟩
      rw [if_pos z00, zq_44_30, iI_n 1, iI_add, e2]
      exact c1
theorem c_ro {b l j0 : Nat} (hw : wf A) (hG : GG A p b (A 4 0).toNat (rv A b (A 6 0).toNat) S) (hF : F62 A b (A 4 0).toNat (rv A b (A 6 0).toNat) S (A 3 0).toNat 0) (hj0 : j0 < (rv A b (A 6 0).toNat).length) (hl : (rv A b (A 6 0).toNat).reverse.getD j0 0 = l) (d : Nat) : ∃ S', z_ew (d + 5) 44 [.ref 55, .int (iI (l : Int))] S = some (.inl (some (.int (iI (myB j0 (wyA A b).reverse : Int)))), S') ∧ myB j0 (wyA A b).reverse < 256 ∧ (∀ a i, a ≠ 63 → S'.1 a i = S.1 a i) ∧ S'.2 = S.2 := by
  have hr2 := hw.r
  obtain ⟨S', M', a1, a2, a3, a4, a5⟩ := c_roL (p := p) hw hj0 hl d 0 (A 3 0).toNat 0 999999 S 0 (by omega) (by omega) hG hF (by decide) (fun x => by
    rw [Nat.zero_testBit]
    exact ⟨fun e => (by cases e), fun e => by omega⟩)
  have e : M' = myB j0 (wyA A b).reverse := by
    refine Nat.eq_of_testBit_eq (fun x => ?_)
    have h1 := a3 x
    have h2 := my_bit (j := j0) (x := x) (wyA A b).reverse
    have h3 : (∃ w, w ∈ (wyA A b).reverse ∧ w.getD j0 0 = x) ↔ QQ A b j0 x := by
      unfold QQ
      simp
    rw [h3] at h2
    rw [Bool.eq_iff_iff, h1, h2]
  subst e
  exact ⟨S', by rw [zx_44, iI_n]; exact a1, a2, a4, a5⟩
theorem c_oo {M : Nat} (hM : M < 256) (d z : Nat) : ∀ (k i n : Nat), i + k = 8 → 2 * k + 2 ≤ n → z_R104 d n 4 z [some (.int (iI (M : Int))), some (.int (iI (oo M i))), some (.int (iI (i : Int)))] [] S = some (.inl (some (.int (iI (oo M 8)))), S) := by
  intro k
  induction k with
  | zero =>
    intro i n hi hn
    obtain ⟨n, rfl⟩ : ∃ q, n = q + 2 := ⟨n - 2, by omega⟩
    have e : i = 8 := by omega
    subst e
    rw [zq_104_4, iI_n 8, if_pos (by decide +kernel), zq_104_25]
  | succ k ih =>
    intro i n hi hn
    obtain ⟨n, rfl⟩ : ∃ q, n = q + 2 := ⟨n - 2, by omega⟩
    have e2 : (i : Int) + ((1 : Nat) : Int) = ((i + 1 : Nat) : Int) := by omega
    have go := ih (i + 1) n (by omega) (by omega)
    rw [oo_s] at go
    rw [zq_104_4, iI_n 8, if_neg (by rw [iI_le (by omega) (by omega) (by omega) (by omega)]; omega)]
    by_cases q : M = 2 ^ i
    · rw [if_pos ((eq_t M hM i (by omega)).mpr q), zq_104_19, iI_n 1, iI_add, e2]
      rw [if_pos q] at go
      exact go
    · rw [if_neg (fun e => q ((eq_t M hM i (by omega)).mp e)), zq_104_19, iI_n 1, iI_add, e2]
      rw [if_neg q] at go
      exact go
theorem c_ooE {M : Nat} (hM : M < 256) (d : Nat) : z_ew (d + 1) 104 [.int (iI (M : Int))] S = some (.inl (some (.int (iI (oo M 8)))), S) := by
  rw [zx_104, nm1, iI_n]
  exact c_oo hM d 0 8 0 999999 (by omega) (by omega)
end RDR
