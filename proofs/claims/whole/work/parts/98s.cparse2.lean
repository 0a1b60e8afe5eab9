/-! the class's parser: signs, parts, joins, nots -/
def pSg (T : Nat → Int) (n : Nat) (sg : Int) (s : Nat) (c : List Int) : pR := if kd T n s = sg then .inl (nx T n s, c) else .inr (1, s)
theorem kd_2 {T : Nat → Int} {n s : Nat} (h : kd T n s = 2) : s < n ∧ tkL (T s) = true := by
  have hs := kd_lt (T := T) (n := n) (s := s) (by omega)
  refine ⟨hs, ?_⟩
  unfold kd at h
  rw [if_neg (by omega)] at h
  refine Classical.byContradiction (fun cl => ?_)
  rw [if_neg cl] at h
  split at h
  · omega
  · split at h
    · rename_i hS
      unfold tkS at hS
      simp only [decide_eq_true_eq] at hS
      omega
    · omega
theorem nb_2 {T : Nat → Int} {n s : Nat} (h : kd T n s = 2) : nb T n s = 0 := by
  have h2 := kd_2 h
  unfold nb
  rw [if_neg (by omega), if_pos h2.2]
theorem wv_t : ∀ w, w < 17 → z_wv.getD w 0 = iI (wvI w) := by decide +kernel
theorem wv_r : ∀ w, w < 17 → -1 ≤ wvI w ∧ wvI w ≤ 6 := by decide +kernel
theorem jn_tb : ∀ j : Nat, j < 20 → (#[(96 : Int), 98, 102, 98, 102, 96, 102, 102, 102, 102, 102, 102, 102, 102, 102, 102, 102, 102, 100, 100] : Array Int)[j]? = some (if j = 0 ∨ j = 5 then 96 else if j = 1 ∨ j = 3 then 98 else if j = 18 ∨ j = 19 then 100 else 102) := by decide +kernel
def jnV (v : Int) (w : Nat) : Int := if v = 42 ∨ v = 47 then 4 else if v = 43 ∨ v = 45 then 3 else if v = 60 ∨ v = 61 then 2 else if w = 9 then 1 else if w = 8 then 0 else -1
section CQ
variable {S : z_St} {T : Nat → Int} {n q s : Nat} {c : List Int}
theorem c_sg (hq : q = 2 ∨ q = 12) (hn : n ≤ 700) {sg : Int} (h1 : 0 < sg) (h2 : sg ≤ 255) {r : pR} (h : RC T n q r S) (d : Nat) : ∃ S', z_ew (d + 4) 28 [.ref 22, .int (iI sg)] S = some (.inl none, S') ∧ RC T n q (pB r (pSg T n sg)) S' ∧ frC q S S' := by
  obtain ⟨S1, b1, b2, b3⟩ := c_bad hq hn (k := 1) (by omega) h (d + 1)
  cases r with
  | inl x =>
    obtain ⟨s, c⟩ := x
    have hs : s ≤ n := h.1
    have hc : c.length ≤ s := h.2.1
    have hk := kd_r (s := s) h.2.2.t
    have h3 : S.1 23 3 = iI (kd T n s) := h.2.2.2.1.2.2.1
    rw [zx_28, h3]
    by_cases e : kd T n s = sg
    · obtain ⟨S', a1, a2, a3⟩ := c_nx hq hn hs h.2.2 d
      have hx := nx_r (T := T) (kd_lt (T := T) (n := n) (s := s) (by omega))
      refine ⟨S', ?_, ?_, a3⟩
      · rw [if_pos (by rw [e]), a1, clv_v, zq_28_26]
      · show RC T n q (pSg T n sg s c) S'
        unfold pSg
        rw [if_pos e]
        exact ⟨hx.2, by show c.length ≤ nx T n s; omega, a2⟩
    · refine ⟨S1, ?_, ?_, b3⟩
      · rw [if_neg (by rw [iI_eq (by omega) (by omega) (by omega) (by omega)]; exact e), zq_28_21, show nI 1 = iI 1 from rfl, b1, clv_v, zq_28_26]
      · show RC T n q (pSg T n sg s c) S1
        unfold pSg
        rw [if_neg e]
        exact b2
  | inr e =>
    have h3 : S.1 23 3 = iI 0 := h.2.2.2.2.2.2.1
    refine ⟨S1, ?_, b2, b3⟩
    rw [zx_28, h3, if_neg (by rw [iI_eq (by omega) (by omega) (by omega) (by omega)]; omega), zq_28_21, show nI 1 = iI 1 from rfl, b1, clv_v, zq_28_26]
theorem q_n1 (hq : q = 2 ∨ q = 12) (h1 : S.1 22 1 = iI (q : Int)) : decide (S.1 22 1 = -1) = false ∧ (S.1 22 1).toNatClampNeg = q := by
  rw [h1, tN (by omega)]
  refine ⟨decide_eq_false (fun e => ?_), rfl⟩
  rw [iI_m1, iI_eq (by omega) (by omega) (by omega) (by omega)] at e
  omega
theorem c_pt (hq : q = 2 ∨ q = 12) (hn : n ≤ 700) {r : pR} (h : RC T n q r S) (d : Nat) : ∃ S', z_ew (d + 5) 34 [.ref 22] S = some (.inl none, S') ∧ RC T n q (pB r (pPt T n)) S' ∧ frC q S S' := by
  cases r with
  | inl x =>
    obtain ⟨s, c⟩ := x
    have hs : s ≤ n := h.1
    have hc : c.length ≤ s := h.2.1
    have hO : OKc T n q s c S := h.2.2
    have hk := kd_r (s := s) hO.t
    have hb := nb_0 (s := s) hO.t
    have h3 : S.1 23 3 = iI (kd T n s) := hO.2.1.2.2.1
    have h5 : S.1 23 5 = iI (nb T n s) := hO.2.1.2.2.2.2.1
    have h6 : S.1 23 6 = iI ((1000 + wd T n s : Nat) : Int) := hO.2.1.2.2.2.2.2
    have hw := wd_17 (T := T) (n := n) (s := s)
    obtain ⟨w1, w2, w3⟩ := wd_c (S := S) (i := 1) (by omega) hw h6
    obtain ⟨q1, q2⟩ := q_n1 (S := S) hq hO.2.2.1
    have hO3 := (z_at_q hq).1
    have fin : ∀ v : Int, s < n → ∃ S', (∀ fu, z_R34 (d + 4) (fu + 2) 123 0 [some (.ref 22)] [.int (iI (enc v)), .ref q] S = some (.inl none, S')) ∧ RC T n q (.inl (nx T n s, c ++ [v])) S' ∧ frC q S S' := by
      intro v hlt
      have hx := nx_r (T := T) hlt
      obtain ⟨S1, b1, b2, b3⟩ := cp_put hq hO (by omega) v (d + 3)
      obtain ⟨S2, e1, e2, e3⟩ := c_nx hq hn hs b2 (d + 1)
      refine ⟨S2, fun fu => ?_, ⟨hx.2, ?_, e2⟩, b3.tr e3⟩
      · rw [zq_34_123, hO3, cond_true, b1, clv_v, e1, clv_v, zq_34_133]
      · show (c ++ [v]).length ≤ nx T n s
        rw [List.length_append]
        show c.length + 1 ≤ _
        omega
    have bad : ∀ k : Int, 1 ≤ k ∧ k ≤ 3 → ∃ S', z_ew (d + 4) 24 [.ref 22, .int (iI k)] S = some (.inl none, S') ∧ RC T n q (.inr (k, s)) S' ∧ frC q S S' := fun k hk => c_bad hq hn hk h (d + 2)
    rw [show pB (Sum.inl (s, c)) (pPt T n) = pPt T n s c from rfl]
    rw [zx_34, h3]
    unfold pPt
    by_cases k1 : kd T n s = 1
    · rw [if_pos (show iI (kd T n s) = nI 1 by rw [k1]; rfl), if_pos k1, zq_34_30, h5, iI_n 9999]
      by_cases c2 : 9999 < nb T n s
      · obtain ⟨S1, b1, b2, b3⟩ := bad 2 (by omega)
        rw [if_neg (by rw [iI_le (by omega) (by omega) (by omega) (by omega)]; omega), if_pos c2]
        refine ⟨S1, ?_, b2, b3⟩
        rw [show nI 2 = iI 2 from rfl, b1, clv_v, zq_34_133]
      · obtain ⟨S1, b1, b2, b3⟩ := fin (nb T n s) (kd_lt (T := T) (n := n) (s := s) (by omega))
        have he : enc (nb T n s) = nb T n s := by
          unfold enc
          rw [if_pos hb.1]
        rw [he] at b1
        rw [if_pos (by rw [iI_le (by omega) (by omega) (by omega) (by omega)]; omega), if_neg c2]
        refine ⟨S1, ?_, b2, b3⟩
        rw [zq_34_51, h3, if_neg (by rw [k1]; decide +kernel), zq_34_84, q1, cond_false, h3, if_neg (by rw [k1]; decide +kernel), q2, zq_34_116, h5]
        exact b1 999993
    · rw [if_neg (show ¬ iI (kd T n s) = nI 1 by rw [show nI 1 = iI 1 from rfl, iI_eq (by omega) (by omega) (by omega) (by omega)]; exact k1), if_neg k1]
      by_cases k2 : kd T n s = 2
      · have hnb := nb_2 k2
        have hwr := wv_r (wd T n s) hw
        rw [if_pos (show iI (kd T n s) = nI 2 by rw [k2]; rfl), if_pos k2, zq_34_30, h5, if_pos (by rw [hnb]; decide +kernel), zq_34_51, h3, if_pos (show iI (kd T n s) = nI 2 by rw [k2]; rfl), w1, cond_false, w3]
        have wO : z_isO 10 (1000 + wd T n s) = true := by
          show (Nat.ble 1000 (1000 + wd T n s) && Nat.blt (1000 + wd T n s) 1017) = true
          rw [Nat.ble_eq_true_of_le (show 1000 ≤ 1000 + wd T n s by omega), show Nat.blt (1000 + wd T n s) 1017 = true from Nat.ble_eq_true_of_le (by omega)]
          rfl
        rw [wO, cond_true, show 1000 + wd T n s - 1000 = wd T n s by omega, wv_t _ hw]
        by_cases c2 : wvI (wd T n s) = -1
        · obtain ⟨S1, b1, b2, b3⟩ := bad 3 (by omega)
          rw [if_pos (by rw [c2]; rfl), if_pos c2]
          refine ⟨S1, ?_, b2, b3⟩
          rw [show nI 3 = iI 3 from rfl, b1, clv_v, zq_34_133]
        · obtain ⟨S1, b1, b2, b3⟩ := fin (-1 - wvI (wd T n s)) (kd_lt (T := T) (n := n) (s := s) (by omega))
          have he : enc (-1 - wvI (wd T n s)) = 10000 + wvI (wd T n s) := by
            unfold enc
            rw [if_neg (by omega), if_pos (by omega)]
            omega
          rw [he] at b1
          rw [if_neg (by rw [show (-nI 1 : Int32) = iI (-1) from rfl, iI_eq (by omega) (by omega) (by omega) (by omega)]; exact c2), if_neg c2]
          refine ⟨S1, ?_, b2, b3⟩
          rw [zq_34_84, q1, cond_false, h3, if_pos (show iI (kd T n s) = nI 2 by rw [k2]; rfl), w1, cond_false, w3, wO, cond_true, q2, show 1000 + wd T n s - 1000 = wd T n s by omega, wv_t _ hw, show nI 10000 = iI 10000 from rfl, iI_add]
          exact b1 999994
      · obtain ⟨S1, b1, b2, b3⟩ := bad 1 (by omega)
        rw [if_neg (show ¬ iI (kd T n s) = nI 2 by rw [show nI 2 = iI 2 from rfl, iI_eq (by omega) (by omega) (by omega) (by omega)]; exact k2), if_neg k2]
        refine ⟨S1, ?_, b2, b3⟩
        rw [show nI 1 = iI 1 from rfl, b1, clv_v, zq_34_133]
  | inr e =>
    have h3 : S.1 23 3 = iI 0 := h.2.2.2.2.2.2.1
    obtain ⟨S1, b1, b2, b3⟩ := c_bad hq hn (k := 1) (by omega) h (d + 2)
    refine ⟨S1, ?_, b2, b3⟩
    rw [zx_34, h3, if_neg (by decide +kernel), if_neg (by decide +kernel), show nI 1 = iI 1 from rfl, b1, clv_v, zq_34_133]
theorem c_jw {w : Nat} (hw : w < 17) (h6 : S.1 23 6 = iI ((1000 + w : Nat) : Int)) (d fu z : Nat) : z_R62 d (fu + 4) 106 z [some (.ref 23)] [] S = some (.inl (some (.int (iI (if w = 9 then 1 else if w = 8 then 0 else -1)))), S) := by
  obtain ⟨w1, w2, w3⟩ := wd_c (S := S) (i := 9) (by omega) hw h6
  obtain ⟨-, w4, -⟩ := wd_c (S := S) (i := 8) (by omega) hw h6
  rw [zq_62_106, w1, cond_false, w2, cond_true, w3]
  by_cases c9 : w = 9
  · rw [if_pos (by omega), zq_62_135, if_pos c9]
    rfl
  · rw [if_neg (by omega), zq_62_120, w1, cond_false, w4, cond_true, w3, if_neg c9]
    by_cases c8 : w = 8
    · rw [if_pos (by omega), zq_62_135, if_pos c8]
      rfl
    · rw [if_neg (by omega), zq_62_134, zq_62_135, if_neg c8]
      rfl
theorem c_jn {v : Int} {w : Nat} (hv : 0 ≤ v ∧ v ≤ 255) (hw : w < 17) (h3 : S.1 23 3 = iI v) (h6 : S.1 23 6 = iI ((1000 + w : Nat) : Int)) (d : Nat) : z_ew (d + 1) 62 [.ref 23] S = some (.inl (some (.int (iI (jnV v w)))), S) := by
  rw [zx_62, h3]
  unfold jnV
  by_cases o : v < 42 ∨ 61 < v
  · rw [sw_out (iI_i (by omega) (by omega)) o, if_neg (by omega), if_neg (by omega), if_neg (by omega)]
    exact c_jw hw h6 d 999995 0
  · have ht := jn_tb (v - 42).toNat (by omega)
    rw [sw_in (iI_i (by omega) (by omega)) o ht]
    by_cases c1 : v = 42 ∨ v = 47
    · rw [if_pos (show (v - 42).toNat = 0 ∨ (v - 42).toNat = 5 by omega), if_pos c1]
      show z_R62 d 999999 100 0 _ [] S = _
      rw [zq_62_100]
      rfl
    · rw [if_neg (show ¬ ((v - 42).toNat = 0 ∨ (v - 42).toNat = 5) by omega), if_neg c1]
      by_cases c2 : v = 43 ∨ v = 45
      · rw [if_pos (show (v - 42).toNat = 1 ∨ (v - 42).toNat = 3 by omega), if_pos c2]
        show z_R62 d 999999 102 0 _ [] S = _
        rw [zq_62_102]
        rfl
      · rw [if_neg (show ¬ ((v - 42).toNat = 1 ∨ (v - 42).toNat = 3) by omega), if_neg c2]
        by_cases c3 : v = 60 ∨ v = 61
        · rw [if_pos (show (v - 42).toNat = 18 ∨ (v - 42).toNat = 19 by omega), if_pos c3]
          show z_R62 d 999999 104 0 _ [] S = _
          rw [zq_62_104]
          rfl
        · rw [if_neg (show ¬ ((v - 42).toNat = 18 ∨ (v - 42).toNat = 19) by omega), if_neg c3]
          exact c_jw hw h6 d 999995 0
theorem cp_op (h : OKc T n q s c S) (hj : 0 ≤ jn T n s) (d : Nat) : z_ew (d + 1) 63 [.ref 23] S = some (.inl (some (.int (iI (-(enc (opC T n s)))))), S) := by
  have hw := wd_17 (T := T) (n := n) (s := s)
  have h6 : S.1 23 6 = iI ((1000 + wd T n s : Nat) : Int) := h.2.1.2.2.2.2.2
  have h3 : S.1 23 3 = iI (kd T n s) := h.2.1.2.2.1
  obtain ⟨w1, w2, w3⟩ := wd_c (S := S) (i := 9) (by omega) hw h6
  obtain ⟨-, w4, -⟩ := wd_c (S := S) (i := 8) (by omega) hw h6
  rw [zx_63, w1, cond_false, w2, cond_true, w3]
  unfold opC
  by_cases c9 : wd T n s = 9
  · rw [if_pos (by omega), zq_63_34, if_pos c9]
    rfl
  · rw [if_neg (by omega), zq_63_15, w1, cond_false, w4, cond_true, w3, if_neg c9]
    by_cases c8 : wd T n s = 8
    · rw [if_pos (by omega), zq_63_34, if_pos c8]
      rfl
    · rw [if_neg (by omega), zq_63_30, zq_63_34, if_neg c8, h3]
      have hk : kd T n s = 42 ∨ kd T n s = 47 ∨ kd T n s = 43 ∨ kd T n s = 45 ∨ kd T n s = 60 ∨ kd T n s = 61 := by
        refine Classical.byContradiction (fun hc => ?_)
        unfold jn at hj
        rw [if_neg (by omega), if_neg (by omega), if_neg (by omega), if_neg c9, if_neg c8] at hj
        omega
      rcases hk with e | e | e | e | e | e <;> rw [e] <;> rfl
theorem c_ntL (hq : q = 2 ∨ q = 12) (hn : n ≤ 700) (d : Nat) : ∀ (j k0 s fu : Nat) (S : z_St), j + k0 = 6 → j + 3 ≤ fu → s ≤ n → c.length ≤ s → OKc T n q s c S → ∃ S', z_R33 (d + 4) fu 2 0 [some (.ref 22), some (.int (iI (k0 : Int)))] [] S = some (.inl (some (.int (iI ((k0 + (pNt T n j s).1 : Nat) : Int)))), S') ∧ RC T n q (if wd T n (pNt T n j s).2 = 10 then .inr (2, (pNt T n j s).2) else .inl ((pNt T n j s).2, c)) S' ∧ frC q S S' := by
  have tl : ∀ (k0 s fu : Nat) (S : z_St), s ≤ n → c.length ≤ s → OKc T n q s c S → ∃ S', z_R33 (d + 4) (fu + 2) 24 0 [some (.ref 22), some (.int (iI (k0 : Int)))] [] S = some (.inl (some (.int (iI (k0 : Int)))), S') ∧ RC T n q (if wd T n s = 10 then .inr (2, s) else .inl (s, c)) S' ∧ frC q S S' := by
    intro k0 s fu S hs hc h
    obtain ⟨w1, w2, w3⟩ := wd_c (S := S) (i := 10) (by omega) (wd_17 (T := T) (n := n) (s := s)) h.2.1.2.2.2.2.2
    rw [zq_33_24, w1, cond_false, w2, cond_true, w3]
    by_cases e : wd T n s = 10
    · obtain ⟨S1, b1, b2, b3⟩ := c_bad hq hn (k := 2) (by omega) (show RC T n q (.inl (s, c)) S from ⟨hs, hc, h⟩) (d + 2)
      rw [if_pos (by omega), if_pos e]
      refine ⟨S1, ?_, b2, b3⟩
      rw [show nI 2 = iI 2 from rfl, b1, clv_v, zq_33_42]
    · rw [if_neg (by omega), if_neg e, zq_33_42]
      exact ⟨S, rfl, ⟨hs, hc, h⟩, frC.rf S⟩
  intro j
  induction j with
  | zero =>
    intro k0 s fu S hj hf hs hc h
    obtain ⟨fu, rfl⟩ : ∃ f, fu = f + 1 := ⟨fu - 1, by omega⟩
    obtain ⟨fu, rfl⟩ : ∃ f, fu = f + 2 := ⟨fu - 2, by omega⟩
    obtain ⟨S1, b1, b2, b3⟩ := tl k0 s fu S hs hc h
    refine ⟨S1, ?_, b2, b3⟩
    rw [zq_33_2, iI_n 6, if_pos (by rw [iI_le (by omega) (by omega) (by omega) (by omega)]; omega), b1]
    rfl
  | succ j ih =>
    intro k0 s fu S hj hf hs hc h
    obtain ⟨fu, rfl⟩ : ∃ f, fu = f + 1 := ⟨fu - 1, by omega⟩
    rw [zq_33_2, iI_n 6, if_neg (by rw [iI_le (by omega) (by omega) (by omega) (by omega)]; omega)]
    obtain ⟨S1, b1, b2, b3⟩ := c_pw hq hn hs h (i := 10) (by omega) d
    rw [b1, cli_i]
    unfold pNt
    by_cases e : wd T n s = 10
    · have hx := nx_r (T := T) (wd_lt (T := T) (n := n) (s := s) (by omega)).1
      rw [decide_eq_true e, if_neg (show ¬ bI true = 0 by decide +kernel), if_pos e, iI_n 1, iI_add]
      rw [if_pos e] at b2
      obtain ⟨S2, e1, e2, e3⟩ := ih (k0 + 1) (nx T n s) fu S1 (by omega) (by omega) hx.2 (by omega) b2
      refine ⟨S2, ?_, e2, b3.tr e3⟩
      rw [show ((k0 : Int) + ((1 : Nat) : Int)) = ((k0 + 1 : Nat) : Int) by omega, e1]
      dsimp only
      rw [show k0 + 1 + (pNt T n j (nx T n s)).1 = k0 + ((pNt T n j (nx T n s)).1 + 1) by omega]
    · rw [decide_eq_false e, if_pos (show bI false = 0 by rfl), if_neg e]
      rw [if_neg e] at b2
      obtain ⟨fu, rfl⟩ : ∃ f, fu = f + 2 := ⟨fu - 2, by omega⟩
      obtain ⟨S2, e1, e2, e3⟩ := tl k0 s fu S1 hs hc b2
      exact ⟨S2, e1, e2, b3.tr e3⟩
theorem c_ntF {k : Int} {pl : Nat} (h : Fc n q k pl S) (d : Nat) : z_ew (d + 2) 33 [.ref 22] S = some (.inl (some (.int (iI 0))), S) := by
  obtain ⟨w1, w2, w3⟩ := wd_c (S := S) (i := 10) (by omega) (w := 0) (by omega) h.2.2.2.2.2.2.2.1
  rw [zx_33, zq_33_2, if_neg (by decide +kernel), c_pwF h (i := 10) (by omega) d, cli_i, if_pos (by rfl), zq_33_24, w1, cond_false, w2, cond_true, w3, if_neg (by omega), zq_33_42]
  rfl
end CQ
