/-! digits and words of a text: the class's -/
def mch (T : Nat → Int) (e : Nat) : List Int32 → Nat → Bool
  | [], q => decide (q = e)
  | c :: ws, q => decide (q < e) && (decide (iI (sb (T q)) = c) && mch T e ws (q + 1))
theorem mch_s {T : Nat → Int} {e : Nat} {c : Int32} {ws : List Int32} {q : Nat} : mch T e (c :: ws) q = (decide (q < e) && (decide (iI (sb (T q)) = c) && mch T e ws (q + 1))) := rfl
def fdF (T : Nat → Int) (s e : Nat) : Nat → Nat → Nat
  | 0, _ => 0
  | k + 1, i => if mch T e (z_tx.getD i []) s = true then i else fdF T s e k (i + 1)
theorem fdF_s {T : Nat → Int} {s e k i : Nat} : fdF T s e (k + 1) i = if mch T e (z_tx.getD i []) s = true then i else fdF T s e k (i + 1) := rfl
theorem tx_l : ∀ i : Nat, i < 17 → (z_tx.getD i []).length ≤ 6 ∧ z_isO 10 (1000 + i) = true := by decide +kernel
section WRD
variable {S : z_St}
theorem c_fd1 {T : Nat → Int} {n0 s e i : Nat} (hn0 : n0 ≤ 700) (hT : ∀ k, k < n0 → (0 ≤ T k ∧ T k ≤ 255) ∧ S.1 1 k = iI (sb (T k))) (he : e ≤ n0) (hs : s ≤ e) (hi : i < 17) (d z : Nat) : ∀ (suf pre : List Int32) (n : Nat), z_tx.getD i [] = pre ++ suf → suf.length + 2 ≤ n → ((mch T e suf (s + pre.length) = true ∧ z_R73 d n 23 z [some (.ref 1), some (.int (iI (s : Int))), some (.int (iI (e : Int))), some (.int (iI (i : Int))), some (.ref (1200 + i)), some (.int (iI (pre.length : Int)))] [] S = some (.inl (some (.ref (1000 + i))), S)) ∨ (¬ mch T e suf (s + pre.length) = true ∧ ∃ n' x5, n ≤ n' + suf.length + 2 ∧ z_R73 d n 23 z [some (.ref 1), some (.int (iI (s : Int))), some (.int (iI (e : Int))), some (.int (iI (i : Int))), some (.ref (1200 + i)), some (.int (iI (pre.length : Int)))] [] S = z_R73 d n' 87 z [some (.ref 1), some (.int (iI (s : Int))), some (.int (iI (e : Int))), some (.int (iI (i : Int))), some (.ref (1200 + i)), x5] [] S)) := by
  have h17 : (Nat.ble 1200 (1200 + i) && Nat.blt (1200 + i) 1217) = true := by
    rw [Nat.ble_eq_true_of_le (by omega), Bool.true_and]
    exact Nat.ble_eq_true_of_le (by omega)
  have hsub : 1200 + i - 1200 = i := by omega
  have hl6 := (tx_l i hi).1
  intro suf
  induction suf with
  | nil =>
    intro pre n hp hn
    have hn : 0 + 2 ≤ n := hn
    obtain ⟨n, rfl⟩ : ∃ m, n = m + 2 := ⟨n - 2, by omega⟩
    rw [List.append_nil] at hp
    rw [hp] at hl6
    have a1 : z_R73 d (n + 2) 23 z [some (.ref 1), some (.int (iI (s : Int))), some (.int (iI (e : Int))), some (.int (iI (i : Int))), some (.ref (1200 + i)), some (.int (iI (pre.length : Int)))] [] S = if iI (s : Int) + iI (pre.length : Int) = iI (e : Int) then some (.inl (some (.ref (1000 + i))), S) else z_R73 d n 87 z [some (.ref 1), some (.int (iI (s : Int))), some (.int (iI (e : Int))), some (.int (iI (i : Int))), some (.ref (1200 + i)), some (.int (iI (pre.length : Int)))] [] S := by
      rw [zq_73_23, h17, cond_true, hsub, hp, iI_n, if_pos (by rw [iI_le (by omega) (by omega) (by omega) (by omega)]; omega), zq_73_63, h17, cond_true, hsub, hp, iI_n, if_pos rfl, ixN hi (by decide), cond_true, tN (by omega)]
    rw [a1, iI_add]
    by_cases q : s + pre.length = e
    · refine Or.inl ⟨decide_eq_true q, ?_⟩
      rw [if_pos (by rw [iI_eq (by omega) (by omega) (by omega) (by omega)]; omega)]
    · refine Or.inr ⟨fun h => q (of_decide_eq_true h), n, some (.int (iI (pre.length : Int))), by show n + 2 ≤ n + 0 + 2; omega, ?_⟩
      rw [if_neg (by rw [iI_eq (by omega) (by omega) (by omega) (by omega)]; omega)]
  | cons c suf ih =>
    intro pre n hp hn
    have hn : suf.length + 1 + 2 ≤ n := hn
    obtain ⟨n, rfl⟩ : ∃ m, n = m + 2 := ⟨n - 2, by omega⟩
    have hlen : (z_tx.getD i []).length = pre.length + (suf.length + 1) := by rw [hp, List.length_append]; rfl
    have hc : (z_tx.getD i []).getD pre.length 0 = c := by
      rw [hp, List.getD_eq_getElem?_getD, List.getElem?_append_right (Nat.le_refl _), Nat.sub_self]
      rfl
    have hx : z_ix (iI (pre.length : Int)) (z_tx.getD i []).length = true := ixN (by omega) (by omega)
    have e1 : iI (s : Int) + iI (pre.length : Int) = iI ((s + pre.length : Nat) : Int) := by rw [iI_add]; congr 1
    have out : ∀ n, z_R73 d (n + 1) 63 z [some (.ref 1), some (.int (iI (s : Int))), some (.int (iI (e : Int))), some (.int (iI (i : Int))), some (.ref (1200 + i)), some (.int (iI (pre.length : Int)))] [] S = z_R73 d n 87 z [some (.ref 1), some (.int (iI (s : Int))), some (.int (iI (e : Int))), some (.int (iI (i : Int))), some (.ref (1200 + i)), some (.int (iI (pre.length : Int)))] [] S := by
      intro n
      rw [zq_73_63, h17, cond_true, hsub, iI_n, if_neg (by rw [iI_eq (by omega) (by omega) (by omega) (by omega)]; omega)]
    rw [mch_s, zq_73_23, h17, cond_true, hsub, iI_n, if_neg (by rw [iI_le (by omega) (by omega) (by omega) (by omega)]; omega), e1]
    by_cases q : s + pre.length < e
    · obtain ⟨hr, hv⟩ := hT (s + pre.length) (by omega)
      rw [if_neg (by rw [iI_le (by omega) (by omega) (by omega) (by omega)]; omega), ixN (show s + pre.length < 700 by omega) (by decide), cond_true, hx, Bool.and_true, cond_true, tN (by omega), tN (by omega), hv, hc, decide_eq_true q, Bool.true_and]
      by_cases q2 : iI (sb (T (s + pre.length))) = c
      · rw [if_pos q2, decide_eq_true q2, Bool.true_and]
        have := ih (pre ++ [c]) (n + 1) (by rw [hp, List.append_assoc]; rfl) (by omega)
        rw [List.length_append] at this
        have e3 : iI (pre.length : Int) + iI ((1 : Nat) : Int) = iI ((pre.length + [c].length : Nat) : Int) := by rw [iI_add]; congr 1
        rw [iI_n, e3]
        rcases this with ⟨g1, g2⟩ | ⟨g1, n', x5, g2, g3⟩
        · exact Or.inl ⟨g1, g2⟩
        · exact Or.inr ⟨g1, n', x5, by show n + 2 ≤ n' + (suf.length + 1) + 2; omega, g3⟩
      · rw [if_neg q2, out, decide_eq_false q2, Bool.false_and]
        exact Or.inr ⟨by decide, n, _, by show n + 2 ≤ n + (suf.length + 1) + 2; omega, rfl⟩
    · rw [if_pos (by rw [iI_le (by omega) (by omega) (by omega) (by omega)]; omega), out, decide_eq_false q, Bool.false_and]
      exact Or.inr ⟨by decide, n, _, by show n + 2 ≤ n + (suf.length + 1) + 2; omega, rfl⟩
theorem c_fdL {T : Nat → Int} {n0 s e : Nat} (hn0 : n0 ≤ 700) (hT : ∀ k, k < n0 → (0 ≤ T k ∧ T k ≤ 255) ∧ S.1 1 k = iI (sb (T k))) (he : e ≤ n0) (hs : s ≤ e) (d z : Nat) : ∀ (k i n : Nat) (x4 x5 : Option Value), i + k = 17 → 12 * k + 2 ≤ n → z_R73 d n 2 z [some (.ref 1), some (.int (iI (s : Int))), some (.int (iI (e : Int))), some (.int (iI (i : Int))), x4, x5] [] S = some (.inl (some (.ref (1000 + fdF T s e k i))), S) := by
  intro k
  induction k with
  | zero =>
    intro i n x4 x5 hi hn
    obtain ⟨n, rfl⟩ : ∃ m, n = m + 2 := ⟨n - 2, by omega⟩
    rw [zq_73_2, iI_n, if_pos (by rw [iI_le (by omega) (by omega) (by omega) (by omega)]; omega), zq_73_93]
    rfl
  | succ k ih =>
    intro i n x4 x5 hi hn
    obtain ⟨n, rfl⟩ : ∃ m, n = m + 1 := ⟨n - 1, by omega⟩
    have hl := tx_l i (by omega)
    have e2 : (i : Int) + ((1 : Nat) : Int) = ((i + 1 : Nat) : Int) := by omega
    rw [zq_73_2, iI_n 17, if_neg (by rw [iI_le (by omega) (by omega) (by omega) (by omega)]; omega), ixN (show i < 17 by omega) (by decide), cond_true, tN (by omega), hl.2, cond_true, show 1000 + i + 200 = 1200 + i by omega, iI_n 0, fdF_s]
    have := c_fd1 (S := S) hn0 hT he hs (show i < 17 by omega) d z (z_tx.getD i []) [] n rfl (by omega)
    rcases this with ⟨g1, g2⟩ | ⟨g1, n', y5, g2, g3⟩
    · have g1 : mch T e (z_tx.getD i []) s = true := g1
      rw [if_pos g1]
      exact g2
    · have g1 : ¬ mch T e (z_tx.getD i []) s = true := g1
      rw [if_neg g1]
      refine Eq.trans g3 ?_
      obtain ⟨n', rfl⟩ : ∃ m, n' = m + 1 := ⟨n' - 1, by omega⟩
      rw [zq_73_87, iI_n 1, iI_add, e2]
      exact ih (i + 1) n' none none (by omega) (by omega)
theorem c_dig {T : Nat → Int} {n0 s : Nat} (hn0 : n0 ≤ 700) (d z : Nat) : ∀ (k q n : Nat) (v : Int) (S : z_St), q + k = n0 → s ≤ q → k + 3 ≤ n → (∀ k, k < n0 → (0 ≤ T k ∧ T k ≤ 255) ∧ S.1 1 k = iI (sb (T k))) → S.1 23 1 = iI (n0 : Int) → S.1 23 2 = iI (q : Int) → S.1 23 4 = iI (s : Int) → S.1 23 5 = iI v → 0 ≤ v ∧ v ≤ 10000 → ∃ S', z_R66 (d + 1) n 0 z [some (.ref 23)] [] S = some (.inl none, S') ∧ S'.1 23 2 = iI (rnF tkD T k q : Int) ∧ S'.1 23 5 = iI (if rnF tkD T k q - s ≤ 4 then cvF 10000 T k q v else 10000) ∧ (∀ a i, a ≠ 23 ∨ (i ≠ 2 ∧ i ≠ 5) → S'.1 a i = S.1 a i) ∧ S'.2 = S.2 := by
  have fin : ∀ (q n : Nat) (v : Int) (S : z_St), s ≤ q → q ≤ 700 → S.1 23 2 = iI (q : Int) → S.1 23 4 = iI (s : Int) → S.1 23 5 = iI v → ∃ S', z_R66 (d + 1) (n + 2) 69 z [some (.ref 23)] [] S = some (.inl none, S') ∧ S'.1 23 2 = iI (q : Int) ∧ S'.1 23 5 = iI (if q - s ≤ 4 then v else 10000) ∧ (∀ a i, a ≠ 23 ∨ (i ≠ 2 ∧ i ≠ 5) → S'.1 a i = S.1 a i) ∧ S'.2 = S.2 := by
    intro q n v S hs hq h2 h4 h5
    by_cases c : q - s ≤ 4
    · refine ⟨S, ?_, h2, by rw [if_pos c]; exact h5, fun _ _ _ => rfl, rfl⟩
      rw [zq_66_69, h2, h4, iI_sub, iI_n 4, if_pos (by rw [iI_le (by omega) (by omega) (by omega) (by omega)]; omega), zq_66_89]
    · refine ⟨(z_w1 S.1 23 5 (nI 10000), S.2), ?_, ?_, ?_, fun a i h => ?_, rfl⟩
      · rw [zq_66_69, h2, h4, iI_sub, iI_n 4, if_neg (by rw [iI_le (by omega) (by omega) (by omega) (by omega)]; omega), zq_66_89]
      · dsimp only
        rw [z_w1_r, if_neg (by omega)]
        exact h2
      · dsimp only
        rw [z_w1_r, if_pos ⟨rfl, rfl⟩, if_neg c]
        rfl
      · dsimp only
        rw [z_w1_r, if_neg (by omega)]
  intro k
  induction k with
  | zero =>
    intro q n v S hq hsq hn hT h1 h2 h4 h5 hv
    obtain ⟨n, rfl⟩ : ∃ m, n = m + 3 := ⟨n - 3, by omega⟩
    obtain ⟨S', a1, a2⟩ := fin q n v S hsq (by omega) h2 h4 h5
    refine ⟨S', ?_, a2⟩
    rw [zq_66_0, h1, h2, if_pos (by rw [iI_le (by omega) (by omega) (by omega) (by omega)]; omega)]
    exact a1
  | succ k ih =>
    intro q n v S hq hsq hn hT h1 h2 h4 h5 hv
    obtain ⟨n, rfl⟩ : ∃ m, n = m + 3 := ⟨n - 3, by omega⟩
    have e2 : (q : Int) + ((1 : Nat) : Int) = ((q + 1 : Nat) : Int) := by omega
    obtain ⟨hr, hb⟩ := hT q (by omega)
    have hsb := sb_r hr
    rw [zq_66_0, h1, h2, if_neg (by rw [iI_le (by omega) (by omega) (by omega) (by omega)]; omega), ixN (show q < 700 by omega) (by decide), cond_true, tN (by omega), hb, c_isD hr d, cli_i, rnF_s, cvF_s]
    by_cases c : tkD (T q) = true
    · have hc : 48 ≤ T q ∧ T q ≤ 57 := of_decide_eq_true c
      have hsv : sb (T q) = T q := by
        unfold sb
        rw [if_neg (by omega)]
      have hmn : 0 ≤ mnI 10000 (v * 10 + T q - 48) ∧ mnI 10000 (v * 10 + T q - 48) ≤ 10000 := by
        unfold mnI
        split <;> omega
      have w : ∀ a i, a ≠ 23 ∨ (i ≠ 2 ∧ i ≠ 5) → z_w1 (z_w1 S.1 23 5 (iI (mnI 10000 (v * 10 + T q - 48)))) 23 2 (iI ((q + 1 : Nat) : Int)) a i = S.1 a i := by
        intro a i h
        rw [z_w1_r, if_neg (by omega), z_w1_r, if_neg (by omega)]
      obtain ⟨S', a1, a2, a3, a4, a5⟩ := ih (q + 1) (n + 2) (mnI 10000 (v * 10 + T q - 48)) (z_w1 (z_w1 S.1 23 5 (iI (mnI 10000 (v * 10 + T q - 48)))) 23 2 (iI ((q + 1 : Nat) : Int)), S.2) (by omega) (by omega) (by omega) (fun k hk => ⟨(hT k hk).1, (w 1 k (by omega)).trans (hT k hk).2⟩) ((w 23 1 (by omega)).trans h1) (by dsimp only; rw [z_w1_r, if_pos ⟨rfl, rfl⟩]) ((w 23 4 (by omega)).trans h4) (by dsimp only; rw [z_w1_r, if_neg (by omega), z_w1_r, if_pos ⟨rfl, rfl⟩]) hmn
      refine ⟨S', ?_, ?_, ?_, fun a i h => (a4 a i h).trans (w a i h), a5⟩
      · rw [c, if_neg (by decide +kernel), h2, ixN (show q < 700 by omega) (by decide), cond_true, tN (by omega), hb, hsv, h5, iI_n 10, iI_n 48, iI_n 10000, iI_mul, iI_add, iI_sub]
        rw [zy_188 d _ _ _ (by decide) (by decide) (by omega) (by omega), cli_i, h2, iI_n 1, iI_add, e2]
        exact a1
      · rw [if_pos c]
        exact a2
      · rw [if_pos c, if_pos c]
        exact a3
    · obtain ⟨S', a1, a2⟩ := fin q n v S hsq (by omega) h2 h4 h5
      refine ⟨S', ?_, ?_⟩
      · rw [Bool.eq_false_iff.mpr c, if_pos (by rfl)]
        exact a1
      · rw [if_neg c, if_neg c]
        exact a2
end WRD
