/-! the class's parser: its small methods -/
theorem fdF_17 {T : Nat → Int} {s e : Nat} : ∀ k i, fdF T s e k i = 0 ∨ fdF T s e k i < i + k
  | 0, i => Or.inl rfl
  | k + 1, i => by
    have ih := fdF_17 (T := T) (s := s) (e := e) k (i + 1)
    rw [fdF_s]
    split <;> omega
theorem wd_17 {T : Nat → Int} {n s : Nat} : wd T n s < 17 := by
  unfold wd
  have := fdF_17 (T := T) (s := s) (e := rn tkL T n s) 17 0
  split
  · omega
  · split <;> omega
theorem kd_r {T : Nat → Int} {n s : Nat} (h : ∀ k, k < n → 0 ≤ T k ∧ T k ≤ 255) : 0 ≤ kd T n s ∧ kd T n s ≤ 255 := by
  unfold kd
  by_cases c : n ≤ s
  · rw [if_pos c]; omega
  · have := h s (by omega)
    rw [if_neg c]
    split
    · omega
    · split
      · omega
      · split <;> omega
def OKc (T : Nat → Int) (n q s : Nat) (c : List Int) (S : z_St) : Prop := txC T n S ∧ tkC T n s S ∧ S.1 22 1 = iI (q : Int) ∧ (S.1 22 2 = iI 0 ∧ S.1 22 3 = iI (-1)) ∧ S.1 q 11 = iI (c.length : Int) ∧ ∀ i (h : i < c.length), S.1 (q + 9) i = iI (enc c[i])
def Fc (n q : Nat) (k : Int) (pl : Nat) (S : z_St) : Prop := 1 ≤ k ∧ k ≤ 3 ∧ pl ≤ n ∧ S.1 22 1 = iI (q : Int) ∧ S.1 22 2 = iI k ∧ S.1 22 3 = iI (pl : Int) ∧ S.1 23 3 = iI 0 ∧ S.1 23 6 = iI 1000 ∧ ∃ L : Nat, L ≤ 700 ∧ S.1 q 11 = iI (L : Int)
def frC (q : Nat) (S S' : z_St) : Prop := S'.2 = S.2 ∧ ∀ a i, a ≠ 22 → a ≠ 23 → a ≠ q + 9 → (a ≠ q ∨ i ≠ 11) → S'.1 a i = S.1 a i
theorem frC.rf {q : Nat} (S : z_St) : frC q S S := ⟨rfl, fun _ _ _ _ _ _ => rfl⟩
theorem frC.tr {q : Nat} {S S1 S2 : z_St} (h : frC q S S1) (h2 : frC q S1 S2) : frC q S S2 := ⟨h2.1.trans h.1, fun a i a1 a2 a3 a4 => (h2.2 a i a1 a2 a3 a4).trans (h.2 a i a1 a2 a3 a4)⟩
def RC (T : Nat → Int) (n q : Nat) (r : pR) (S : z_St) : Prop := match r with
  | .inl x => x.1 ≤ n ∧ x.2.length ≤ x.1 ∧ OKc T n q x.1 x.2 S
  | .inr e => Fc n q e.1 e.2 S
def flS (l : Int32) (S : z_St) : z_St := if S.1 22 2 = 0 then (z_w1 (z_w1 (z_w1 (z_w1 (z_w1 S.1 22 2 l) 22 3 (S.1 23 4)) 23 2 (z_w1 (z_w1 S.1 22 2 l) 22 3 (S.1 23 4) 23 1)) 23 3 (nI 0)) 23 6 (nI 1000), S.2) else (z_w1 (z_w1 (z_w1 S.1 23 2 (S.1 23 1)) 23 3 (nI 0)) 23 6 (nI 1000), S.2)
theorem z_at_q {q : Nat} (hq : q = 2 ∨ q = 12) : z_isO 3 q = true ∧ Nat.beq (q + 9) 1100 = false ∧ z_at (q + 9) = 1 ∧ z_ln (q + 9) = 700 := by
  rcases hq with rfl | rfl <;> decide +kernel
section CP
variable {S : z_St} {T : Nat → Int} {n q s : Nat} {c : List Int}
theorem OKc.t (h : OKc T n q s c S) : ∀ k, k < n → 0 ≤ T k ∧ T k ≤ 255 := fun k hk => (h.1 k hk).1
theorem fl_eq (l : Int32) (d : Nat) : z_ew (d + 2) 24 [.ref 22, .int l] S = some (.inl none, flS l S) := by
  rw [zx_24]
  unfold flS
  by_cases h : S.1 22 2 = 0
  · rw [if_pos h, zq_24_23, zx_60, clv_v, if_pos h]
  · rw [if_neg h, zq_24_23, zx_60, clv_v, if_neg h]
theorem fl_fr (hq : q = 2 ∨ q = 12) (l : Int32) : frC q S (flS l S) := by
  unfold flS
  split
  · refine ⟨rfl, fun a i a1 a2 _ _ => ?_⟩
    dsimp only
    rw [z_w1_r, if_neg (by omega), z_w1_r, if_neg (by omega), z_w1_r, if_neg (by omega), z_w1_r, if_neg (by omega), z_w1_r, if_neg (by omega)]
  · refine ⟨rfl, fun a i a1 a2 _ _ => ?_⟩
    dsimp only
    rw [z_w1_r, if_neg (by omega), z_w1_r, if_neg (by omega), z_w1_r, if_neg (by omega)]
theorem c_fl (hq : q = 2 ∨ q = 12) {k : Int} (hk : 1 ≤ k ∧ k ≤ 3) (hs : s ≤ n) (hc : c.length ≤ 700) (h : OKc T n q s c S) : Fc n q k s (flS (iI k) S) := by
  obtain ⟨-, ⟨-, -, -, k4, -, -⟩, h1, h2, h3, -⟩ := h
  have h2' : S.1 22 2 = 0 := h2.1
  have hf := (fl_fr (S := S) hq (iI k)).2
  unfold flS at hf ⊢
  rw [if_pos h2'] at hf ⊢
  refine ⟨hk.1, hk.2, hs, ?_, ?_, ?_, ?_, ?_, c.length, hc, ?_⟩
  · simp [z_w1_r, h1]
  · simp [z_w1_r]
  · simp [z_w1_r, k4]
  · simp [z_w1_r]; rfl
  · simp [z_w1_r]; rfl
  · have e : ∀ a, a = q → a ≠ 22 ∧ a ≠ 23 := fun a ha => by omega
    simp [z_w1_r, (e q rfl).1, (e q rfl).2, h3]
theorem c_flF (hq : q = 2 ∨ q = 12) {k : Int} {pl : Nat} {l : Int32} (h : Fc n q k pl S) : Fc n q k pl (flS l S) := by
  obtain ⟨a1, a2, a3, a4, a5, a6, a7, a8, L, a9, a10⟩ := h
  have h2' : ¬ S.1 22 2 = 0 := by
    rw [a5, iI_0, iI_eq (by omega) (by omega) (by omega) (by omega)]
    omega
  unfold flS
  rw [if_neg h2']
  refine ⟨a1, a2, a3, ?_, ?_, ?_, ?_, ?_, L, a9, ?_⟩
  · simp [z_w1_r, a4]
  · simp [z_w1_r, a5]
  · simp [z_w1_r, a6]
  · simp [z_w1_r]; rfl
  · simp [z_w1_r]; rfl
  · have e : ∀ a, a = q → a ≠ 22 ∧ a ≠ 23 := fun a ha => by omega
    simp [z_w1_r, (e q rfl).2, a10]
/-- a failing, of any state -/
theorem c_bad (hq : q = 2 ∨ q = 12) (hn : n ≤ 700) {k : Int} (hk : 1 ≤ k ∧ k ≤ 3) {r : pR} (h : RC T n q r S) (d : Nat) : ∃ S', z_ew (d + 2) 24 [.ref 22, .int (iI k)] S = some (.inl none, S') ∧ RC T n q (pB r (fun s _ => .inr (k, s))) S' ∧ frC q S S' := by
  refine ⟨_, fl_eq _ d, ?_, fl_fr hq _⟩
  cases r with
  | inl x => exact c_fl hq hk h.1 (by have := h.1; have := h.2.1; omega) h.2.2
  | inr e => exact c_flF hq h
theorem pt_eq (hq : q = 2 ∨ q = 12) {L : Nat} (hL : S.1 q 11 = iI (L : Int)) (h7 : L ≤ 700) (l : Int32) (d : Nat) : z_ew (d + 1) 36 [.ref q, .int l] S = some (.inl none, if L < 700 then (z_w1 (z_w1 S.1 (q + 9) L l) q 11 (iI ((L + 1 : Nat) : Int)), S.2) else S) := by
  obtain ⟨b1, b2, b3, b4⟩ := z_at_q hq
  have b5 : Nat.blt 0 (z_at (q + 9)) = true := by rw [b3]; rfl
  rw [zx_36, b1, cond_true, cond_true, b2, cond_false, b5, cond_true, b4, hL, iI_n 700]
  by_cases c7 : L < 700
  · have hw : z_w1 S.1 (q + 9) L l q 11 = iI (L : Int) := by rw [z_w1_r, if_neg (by omega), hL]
    rw [if_neg (by rw [iI_le (by omega) (by omega) (by omega) (by omega)]; omega), b3, ixN c7 (by decide), cond_true, cond_true, show (Nat.beq 1 1 && true) = true from rfl, cond_true, cond_true, tN (by omega), hw, iI_n 1, iI_add, show (true && Nat.beq 0 0 && z_nb 0 (iI ((L : Int) + ((1 : Nat) : Int)))) = true from rfl, cond_true, zq_36_32, if_pos c7]
    rfl
  · rw [if_pos (by rw [iI_le (by omega) (by omega) (by omega) (by omega)]; omega), zq_36_32, if_neg c7]
theorem cp_put (hq : q = 2 ∨ q = 12) (h : OKc T n q s c S) (hc : c.length < 700) (v : Int) (d : Nat) : ∃ S', z_ew (d + 1) 36 [.ref q, .int (iI (enc v))] S = some (.inl none, S') ∧ OKc T n q s (c ++ [v]) S' ∧ frC q S S' := by
  obtain ⟨h0, ⟨k1, k2, k3, k4, k5, k6⟩, h1, h2, h3, h4⟩ := h
  have e := pt_eq hq h3 (by omega) (iI (enc v)) d
  rw [if_pos hc] at e
  have fr : ∀ a i, (a ≠ q ∨ i ≠ 11) → (a ≠ q + 9 ∨ i ≠ c.length) → z_w1 (z_w1 S.1 (q + 9) c.length (iI (enc v))) q 11 (iI ((c.length + 1 : Nat) : Int)) a i = S.1 a i := by
    intro a i a1 a2
    rw [z_w1_r, if_neg (by omega), z_w1_r, if_neg (by omega)]
  refine ⟨_, e, ⟨h0.f (fun i => fr 1 i (by omega) (by omega)), ⟨?_, ?_, ?_, ?_, ?_, ?_⟩, ?_, ?_, ?_, ?_⟩, rfl, fun a i a1 a2 a3 a4 => fr a i a4 (Or.inl a3)⟩
  · exact (fr 23 1 (by omega) (by omega)).trans k1
  · exact (fr 23 2 (by omega) (by omega)).trans k2
  · exact (fr 23 3 (by omega) (by omega)).trans k3
  · exact (fr 23 4 (by omega) (by omega)).trans k4
  · exact (fr 23 5 (by omega) (by omega)).trans k5
  · exact (fr 23 6 (by omega) (by omega)).trans k6
  · exact (fr 22 1 (by omega) (by omega)).trans h1
  · exact ⟨(fr 22 2 (by omega) (by omega)).trans h2.1, (fr 22 3 (by omega) (by omega)).trans h2.2⟩
  · dsimp only
    rw [z_w1_r, if_pos ⟨rfl, rfl⟩, List.length_append]
    rfl
  · intro i hi
    rw [List.length_append] at hi
    have hi : i < c.length + 1 := hi
    by_cases ci : i = c.length
    · subst ci
      dsimp only
      rw [z_w1_r, if_neg (by omega), z_w1_r, if_pos ⟨rfl, rfl⟩, List.getElem_append_right (Nat.le_refl _)]
      simp
    · rw [List.getElem_append_left (by omega)]
      exact (fr (q + 9) i (by omega) (by omega)).trans (h4 i (by omega))
theorem cp_putF (hq : q = 2 ∨ q = 12) {k : Int} {pl : Nat} (h : Fc n q k pl S) (l : Int32) (d : Nat) : ∃ S', z_ew (d + 1) 36 [.ref q, .int l] S = some (.inl none, S') ∧ Fc n q k pl S' ∧ frC q S S' := by
  obtain ⟨a1, a2, a3, a4, a5, a6, a7, a8, L, a9, a10⟩ := h
  refine ⟨_, pt_eq hq a10 a9 l d, ?_, ?_⟩
  · by_cases c7 : L < 700
    · rw [if_pos c7]
      have fr : ∀ a i, (a ≠ q ∨ i ≠ 11) → (a ≠ q + 9 ∨ i ≠ L) → z_w1 (z_w1 S.1 (q + 9) L l) q 11 (iI ((L + 1 : Nat) : Int)) a i = S.1 a i := by
        intro a i a1 a2
        rw [z_w1_r, if_neg (by omega), z_w1_r, if_neg (by omega)]
      refine ⟨a1, a2, a3, (fr 22 1 (by omega) (by omega)).trans a4, (fr 22 2 (by omega) (by omega)).trans a5, (fr 22 3 (by omega) (by omega)).trans a6, (fr 23 3 (by omega) (by omega)).trans a7, (fr 23 6 (by omega) (by omega)).trans a8, L + 1, by omega, ?_⟩
      dsimp only
      rw [z_w1_r, if_pos ⟨rfl, rfl⟩]
    · rw [if_neg c7]
      exact ⟨a1, a2, a3, a4, a5, a6, a7, a8, L, a9, a10⟩
  · by_cases c7 : L < 700
    · rw [if_pos c7]
      refine ⟨rfl, fun a i b1 b2 b3 b4 => ?_⟩
      dsimp only
      rw [z_w1_r, if_neg (by omega), z_w1_r, if_neg (by omega)]
    · rw [if_neg c7]
      exact frC.rf S
theorem c_nx (hq : q = 2 ∨ q = 12) (hn : n ≤ 700) (hs : s ≤ n) (h : OKc T n q s c S) (d : Nat) : ∃ S', z_ew (d + 3) 61 [.ref 23] S = some (.inl none, S') ∧ OKc T n q (nx T n s) c S' ∧ frC q S S' := by
  obtain ⟨h0, ⟨k1, k2, k3, k4, k5, k6⟩, h1, h2, h3, h4⟩ := h
  have he : en T n s ≤ n := by
    by_cases cs : s < n
    · exact (en_r cs).2
    · unfold en
      rw [if_pos (by omega)]
      exact hs
  obtain ⟨S', b1, b2, b3, b4⟩ := c_adv hn h0 k1 k2 he d
  exact ⟨S', b1, ⟨h0.f (fun i => b3 1 i (by omega)), b2, (b3 22 1 (by omega)).trans h1, ⟨(b3 22 2 (by omega)).trans h2.1, (b3 22 3 (by omega)).trans h2.2⟩, (b3 q 11 (by omega)).trans h3, fun i hi => (b3 (q + 9) i (by omega)).trans (h4 i hi)⟩, b4, fun a i a1 a2 a3 a4 => b3 a i a2⟩
theorem wd_c {i : Nat} (hi : 1 ≤ i ∧ i < 17) {w : Nat} (hw : w < 17) (h6 : S.1 23 6 = iI ((1000 + w : Nat) : Int)) : (decide (S.1 23 6 = -1) = false) ∧ (Nat.ble 1000 (S.1 23 6).toNatClampNeg && Nat.blt (S.1 23 6).toNatClampNeg 1017 && Nat.ble 1000 (1000 + i) && Nat.blt (1000 + i) 1017) = true ∧ (S.1 23 6).toNatClampNeg = 1000 + w := by
  rw [h6, tN (by omega)]
  refine ⟨decide_eq_false (fun e => ?_), ?_, rfl⟩
  · rw [iI_m1, iI_eq (by omega) (by omega) (by omega) (by omega)] at e
    omega
  · rw [Nat.ble_eq_true_of_le (show 1000 ≤ 1000 + w by omega), show Nat.blt (1000 + w) 1017 = true from Nat.ble_eq_true_of_le (by omega), Nat.ble_eq_true_of_le (show 1000 ≤ 1000 + i by omega), show Nat.blt (1000 + i) 1017 = true from Nat.ble_eq_true_of_le (by omega)]
    rfl
theorem c_pw (hq : q = 2 ∨ q = 12) (hn : n ≤ 700) (hs : s ≤ n) (h : OKc T n q s c S) {i : Nat} (hi : 1 ≤ i ∧ i < 17) (d : Nat) : ∃ S', z_ew (d + 4) 27 [.ref 22, .ref (1000 + i)] S = some (.inl (some (.int (bI (decide (wd T n s = i))))), S') ∧ OKc T n q (if wd T n s = i then nx T n s else s) c S' ∧ frC q S S' := by
  obtain ⟨w1, w2, w3⟩ := wd_c hi (wd_17 (T := T) (n := n) (s := s)) h.2.1.2.2.2.2.2
  rw [zx_27, w1, cond_false, w2, cond_true, w3]
  by_cases e : wd T n s = i
  · obtain ⟨S', b1, b2, b3⟩ := c_nx hq hn hs h d
    rw [if_pos (by omega), if_pos e, decide_eq_true e]
    refine ⟨S', ?_, b2, b3⟩
    rw [zq_27_16, if_neg (by decide +kernel), b1, clv_v, zq_27_28, show z_rb (some .boolean) (nI 1) = true from rfl, cond_true]
    rfl
  · rw [if_neg (by omega), if_neg e, decide_eq_false e]
    refine ⟨S, ?_, h, frC.rf S⟩
    rw [zq_27_15, zq_27_16, if_pos (by rfl), zq_27_28, show z_rb (some .boolean) (nI 0) = true from rfl, cond_true]
    rfl
theorem c_pwF {k : Int} {pl : Nat} (h : Fc n q k pl S) {i : Nat} (hi : 1 ≤ i ∧ i < 17) (d : Nat) : z_ew (d + 1) 27 [.ref 22, .ref (1000 + i)] S = some (.inl (some (.int (bI false))), S) := by
  obtain ⟨a1, a2, a3, a4, a5, a6, a7, a8, _⟩ := h
  obtain ⟨w1, w2, w3⟩ := wd_c (S := S) hi (w := 0) (by omega) a8
  rw [zx_27, w1, cond_false, w2, cond_true, w3, if_neg (by omega), zq_27_15, zq_27_16, if_pos (by rfl), zq_27_28, show z_rb (some .boolean) (nI 0) = true from rfl, cond_true]
  rfl
end CP
