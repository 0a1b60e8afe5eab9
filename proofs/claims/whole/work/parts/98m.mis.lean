/-! a word of a text: the model's -/
def alM (T : Nat → Int) : List Int32 → Nat → Bool
  | [], _ => true
  | c :: ws, q => decide (c = iI (T q)) && alM T ws (q + 1)
theorem alM_s {T : Nat → Int} {c : Int32} {ws : List Int32} {q : Nat} : alM T (c :: ws) q = (decide (c = iI (T q)) && alM T ws (q + 1)) := rfl
theorem tx_c : ∀ i : Nat, i < 17 → ((z_tx.getD i []).all (fun c => decide (97 ≤ c.toInt ∧ c.toInt ≤ 122))) = true := by decide +kernel
theorem sb_c {c : Int32} {v : Int} (hc : 97 ≤ c.toInt ∧ c.toInt ≤ 122) (hv : 0 ≤ v ∧ v ≤ 255) : iI (sb v) = c ↔ c = iI v := by
  have e : c = iI c.toInt := (fb_asI c).symm
  rw [e]
  have hs := sb_r hv
  rw [iI_eq (by omega) (by omega) (by omega) (by omega), iI_eq (by omega) (by omega) (by omega) (by omega)]
  unfold sb
  split <;> omega
theorem mch_al {T : Nat → Int} {n e : Nat} (hT : ∀ k, k < n → 0 ≤ T k ∧ T k ≤ 255) (he : e ≤ n) : ∀ (ws : List Int32) (q : Nat), ws.all (fun c => decide (97 ≤ c.toInt ∧ c.toInt ≤ 122)) = true → mch T e ws q = (decide (q + ws.length = e) && alM T ws q)
  | [], q, _ => by
    show decide (q = e) = (decide (q + 0 = e) && true)
    rw [Bool.and_true]
    rfl
  | c :: ws, q, h => by
    rw [List.all_cons, Bool.and_eq_true] at h
    have ih := mch_al hT he ws (q + 1) h.2
    have hc := of_decide_eq_true h.1
    rw [mch_s, alM_s, ih, List.length_cons, show q + 1 + ws.length = q + (ws.length + 1) by omega]
    by_cases c1 : q < e
    · have hb := sb_c hc (hT q (by omega))
      rw [decide_eq_true c1, Bool.true_and, show decide (iI (sb (T q)) = c) = decide (c = iI (T q)) from decide_eq_decide.mpr hb]
      cases decide (c = iI (T q)) <;> cases decide (q + (ws.length + 1) = e) <;> rfl
    · rw [decide_eq_false c1, Bool.false_and, decide_eq_false (show ¬ q + (ws.length + 1) = e by omega), Bool.false_and]
section MIS
variable {S : z_St}
theorem m_al {T : Nat → Int} {n0 s i : Nat} (hn0 : n0 ≤ 700) (hT : txM T n0 S) (h22 : S.1 70 22 = iI (s : Int)) (hi : i < 17) (hl : s + (z_tx.getD i []).length ≤ n0) (d z : Nat) : ∀ (suf pre : List Int32) (n : Nat) (v : Bool), z_tx.getD i [] = pre ++ suf → 3 * suf.length + 2 ≤ n → z_R122 d n 39 z [some (.ref 70), some (.ref (1200 + i)), some (.int (bI v)), some (.int (iI (pre.length : Int)))] [] S = some (.inl (some (.int (bI (v && alM T suf (s + pre.length))))), S) := by
  have h17 : (Nat.ble 1200 (1200 + i) && Nat.blt (1200 + i) 1217) = true := by
    rw [Nat.ble_eq_true_of_le (by omega), Bool.true_and]
    exact Nat.ble_eq_true_of_le (by omega)
  have hsub : 1200 + i - 1200 = i := by omega
  have hl6 := (tx_l i hi).1
  have rbI : ∀ x, z_rb (some .boolean) (bI x) = true := by
    intro x
    cases x
    · exact rbn0
    · exact rbn1
  intro suf
  induction suf with
  | nil =>
    intro pre n v hp hn
    have hn : 3 * 0 + 2 ≤ n := hn
    obtain ⟨n, rfl⟩ : ∃ m, n = m + 2 := ⟨n - 2, by omega⟩
    rw [List.append_nil] at hp
    rw [hp] at hl6
    rw [show alM T [] (s + pre.length) = true from rfl, Bool.and_true]
    cases v
    · rw [zq_122_39, if_pos (by rfl), zq_122_82, rbI, cond_true]
    · rw [zq_122_39, if_neg (by decide +kernel), h17, cond_true, hsub, hp, iI_n, if_pos (by rw [iI_le (by omega) (by omega) (by omega) (by omega)]; omega), zq_122_82, rbI, cond_true]
  | cons c suf ih =>
    intro pre n v hp hn
    have hn : 3 * (suf.length + 1) + 2 ≤ n := hn
    obtain ⟨n, rfl⟩ : ∃ m, n = m + 3 := ⟨n - 3, by omega⟩
    have hlen : (z_tx.getD i []).length = pre.length + (suf.length + 1) := by rw [hp, List.length_append]; rfl
    have hc : (z_tx.getD i []).getD pre.length 0 = c := by
      rw [hp, List.getD_eq_getElem?_getD, List.getElem?_append_right (Nat.le_refl _), Nat.sub_self]
      rfl
    have hx : z_ix (iI (pre.length : Int)) (z_tx.getD i []).length = true := ixN (by omega) (by omega)
    have e1 : iI (s : Int) + iI (pre.length : Int) = iI ((s + pre.length : Nat) : Int) := by rw [iI_add]; congr 1
    cases v
    · rw [zq_122_39, if_pos (by rfl), zq_122_82, rbI, cond_true, Bool.false_and]
    · rw [zq_122_39, if_neg (by decide +kernel), h17, cond_true, hsub, iI_n, if_neg (by rw [iI_le (by omega) (by omega) (by omega) (by omega)]; omega), hx, Bool.and_true, cond_true, h22, e1, ixN (show s + pre.length < 700 by omega) (by decide), cond_true, tN (by omega), tN (by omega), hc, (hT.2 (s + pre.length) (by omega)).2, alM_s, Bool.true_and]
      have e3 : iI (pre.length : Int) + nI 1 = iI ((pre.length + [c].length : Nat) : Int) := by rw [iI_n, iI_add]; congr 1
      have go : ∀ (n : Nat) (b : Bool), 3 * suf.length + 2 ≤ n → _ := fun n b h => ih (pre ++ [c]) n b (by rw [hp, List.append_assoc]; rfl) h
      simp only [List.length_append] at go
      by_cases q : c = iI (T (s + pre.length))
      · rw [if_pos q, zq_122_75, e3, decide_eq_true q]
        exact go (n + 1) true (by omega)
      · rw [if_neg q, zq_122_74, zq_122_75, e3, decide_eq_false q]
        exact go n false (by omega)
end MIS
