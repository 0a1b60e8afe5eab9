/-! the model's parser: parts, a whole law -/
section MQ
variable {T : Nat → Int} {n : Nat}
theorem m_lv134 (hn : n ≤ 700) {D ar f : Nat} (har : ar ≤ 5) {o : Nat → List Int → pR} (hO : mpG T n (D + 2) 133 ar o) (hg : ∀ s c, s ≤ n → pG n f s c (o s c)) (hno : ∀ s c, ¬ (kd T n s = 1 ∨ kd T n s = 2 ∨ kd T n s = 40) → o s c = .inr (1, s)) : mpG T n (D + 3) 134 ar (pV T n o 0) := by
  intro r S h
  cases r with
  | inr e => exact ⟨S, mF_134 (show Fm T n e.1 e.2 S from h) _ (D + 2), h, frM.rf S⟩
  | inl x =>
    obtain ⟨s, c⟩ := x
    have hs : s ≤ n := h.1
    have hc : c.length ≤ s := h.2.1
    have hM : OKm T n s c S := h.2.2
    obtain ⟨m1, m2, m3, -⟩ := kM_1 (T := T) (n := n) (s := s)
    have k2 : S.1 70 20 = iI (kM T n s) := hM.2.1.2.1
    rw [zx_134, if_pos (show S.1 70 24 = 0 from hM.2.2.1), zq_134_8, k2, show pB (Sum.inl (s, c)) (pV T n o 0) = pV T n o 0 s c from rfl]
    unfold pV
    rw [if_neg (show ¬ (0 : Nat) = 2 by decide)]
    by_cases may : kd T n s = 1 ∨ kd T n s = 2 ∨ kd T n s = 40
    · obtain ⟨S2, e1, e2, e3⟩ := hO _ S h
      have e2 : RM T n (o s c) S2 := e2
      have go : ∃ S', z_R134 (D + 2) 999998 33 0 [some (.ref 70), some (.int (iI (ar : Int))), none] [] S = some (.inl none, S') ∧ RM T n (pB (o s c) (fun s' c' => pLp T n o 0 700 s' c')) S' ∧ frM S S' := by
        rw [zq_134_33, zq_134_38, if_neg (by decide +kernel), zq_134_51, if_neg (show ¬ iI (ar : Int) = nI 6 by rw [show nI 6 = iI 6 from rfl, iI_eq (by omega) (by omega) (by omega) (by omega)]; omega), zq_134_62, e1, clv_v]
        cases hr : o s c with
        | inl y =>
          obtain ⟨s2, c2⟩ := y
          rw [hr] at e2
          have hs2 : s2 ≤ n := e2.1
          have hc2 : c2.length ≤ s2 := e2.2.1
          obtain ⟨S3, f1, f2, f3⟩ := m_lp134 hn hO hg 700 999994 s2 c2 none S2 (by omega) (by omega) hs2 hc2 e2.2.2
          exact ⟨S3, f1, f2, e3.tr f3⟩
        | inr y =>
          rw [hr] at e2
          refine ⟨S2, ?_, e2, e3⟩
          exact mF_134L hn e2 (iI (ar : Int)) none (D + 1) 999992
      by_cases q1 : kd T n s = 1
      · rw [if_pos (show iI (kM T n s) = nI 2 by rw [m1.mpr q1]; rfl)]
        exact go
      · rw [if_neg (show ¬ iI (kM T n s) = nI 2 by rw [show nI 2 = iI 2 from rfl, iI_eq (by omega) (by omega) (by omega) (by omega)]; exact fun q => q1 (m1.mp q))]
        by_cases q2 : kd T n s = 2
        · rw [if_pos (show iI (kM T n s) = nI 1 by rw [m2.mpr q2]; rfl)]
          exact go
        · rw [if_neg (show ¬ iI (kM T n s) = nI 1 by rw [show nI 1 = iI 1 from rfl, iI_eq (by omega) (by omega) (by omega) (by omega)]; exact fun q => q2 (m2.mp q)), show nI 40 = iI 40 from rfl, m_ism hn (by decide) hM (D + 1), cli_i, decide_eq_true (by omega), if_neg (show ¬ bI true = 0 by decide +kernel)]
          exact go
    · obtain ⟨S1, b1, b2, b3⟩ := mp_wr (k := 1) (by omega) hs hM (D + 1)
      obtain ⟨S2, e1, e2, e3⟩ := hO (.inr (1, s)) S1 b2
      have e2 : Fm T n 1 s S2 := e2
      rw [hno s c may]
      refine ⟨S2, ?_, e2, b3.tr e3⟩
      rw [if_neg (show ¬ iI (kM T n s) = nI 2 by rw [show nI 2 = iI 2 from rfl, iI_eq (by omega) (by omega) (by omega) (by omega)]; exact fun q => may (Or.inl (m1.mp q))), if_neg (show ¬ iI (kM T n s) = nI 1 by rw [show nI 1 = iI 1 from rfl, iI_eq (by omega) (by omega) (by omega) (by omega)]; exact fun q => may (Or.inr (Or.inl (m2.mp q)))), show nI 40 = iI 40 from rfl, m_ism hn (by decide) hM (D + 1), cli_i, decide_eq_false (by omega), if_pos (show bI false = 0 by rfl), zq_134_37, zq_134_38, if_pos (by rfl), show nI 1 = iI 1 from rfl, b1, clv_v, zq_134_62, e1, clv_v]
      exact mF_134L hn e2 (iI (ar : Int)) none (D + 1) 999993
theorem m_e6 (hn : n ≤ 700) {D s : Nat} {c : List Int} {S : z_St} (hs : s ≤ n) (hM : OKm T n s c S) : ∃ S', z_ew (D + 6) 134 [.ref 70, .int (iI ((6 : Nat) : Int))] S = some (.inl none, S') ∧ RM T n (if kd T n s = 1 ∨ kd T n s = 2 ∨ kd T n s = 40 then .inr (2, s) else .inr (1, s)) S' ∧ frM S S' := by
  obtain ⟨m1, m2, m3, -⟩ := kM_1 (T := T) (n := n) (s := s)
  have k2 : S.1 70 20 = iI (kM T n s) := hM.2.1.2.1
  rw [zx_134, if_pos (show S.1 70 24 = 0 from hM.2.2.1), zq_134_8, k2]
  by_cases may : kd T n s = 1 ∨ kd T n s = 2 ∨ kd T n s = 40
  · obtain ⟨S1, b1, b2, b3⟩ := mp_wr (k := 2) (by omega) hs hM (D + 4)
    rw [if_pos may]
    have go : z_R134 (D + 5) 999998 33 0 [some (.ref 70), some (.int (iI ((6 : Nat) : Int))), none] [] S = some (.inl none, S1) := by
      rw [zq_134_33, zq_134_38, if_neg (by decide +kernel), zq_134_51, if_pos (by rfl), show nI 2 = iI 2 from rfl, b1, clv_v, zq_134_62, mF_133 hn b2, clv_v]
      exact mF_134L hn b2 _ none (D + 4) 999992
    by_cases q1 : kd T n s = 1
    · rw [if_pos (show iI (kM T n s) = nI 2 by rw [m1.mpr q1]; rfl)]
      exact ⟨S1, go, b2, b3⟩
    · rw [if_neg (show ¬ iI (kM T n s) = nI 2 by rw [show nI 2 = iI 2 from rfl, iI_eq (by omega) (by omega) (by omega) (by omega)]; exact fun q => q1 (m1.mp q))]
      by_cases q2 : kd T n s = 2
      · rw [if_pos (show iI (kM T n s) = nI 1 by rw [m2.mpr q2]; rfl)]
        exact ⟨S1, go, b2, b3⟩
      · rw [if_neg (show ¬ iI (kM T n s) = nI 1 by rw [show nI 1 = iI 1 from rfl, iI_eq (by omega) (by omega) (by omega) (by omega)]; exact fun q => q2 (m2.mp q)), show nI 40 = iI 40 from rfl, m_ism hn (by decide) hM (D + 4), cli_i, decide_eq_true (by omega), if_neg (show ¬ bI true = 0 by decide +kernel)]
        exact ⟨S1, go, b2, b3⟩
  · obtain ⟨S1, b1, b2, b3⟩ := mp_wr (k := 1) (by omega) hs hM (D + 4)
    rw [if_neg may]
    refine ⟨S1, ?_, b2, b3⟩
    rw [if_neg (show ¬ iI (kM T n s) = nI 2 by rw [show nI 2 = iI 2 from rfl, iI_eq (by omega) (by omega) (by omega) (by omega)]; exact fun q => may (Or.inl (m1.mp q))), if_neg (show ¬ iI (kM T n s) = nI 1 by rw [show nI 1 = iI 1 from rfl, iI_eq (by omega) (by omega) (by omega) (by omega)]; exact fun q => may (Or.inr (Or.inl (m2.mp q)))), show nI 40 = iI 40 from rfl, m_ism hn (by decide) hM (D + 4), cli_i, decide_eq_false (by omega), if_pos (show bI false = 0 by rfl), zq_134_37, zq_134_38, if_pos (by rfl), show nI 1 = iI 1 from rfl, b1, clv_v, zq_134_62, mF_133 hn b2, clv_v]
    exact mF_134L hn b2 _ none (D + 4) 999993
theorem m_part (hn : n ≤ 700) {D ar : Nat} (har : ar ≤ 5) {g : Nat → Nat → Nat → List Int → pR} (hE : ar < 5 → mpG T n (D + 6) 134 (ar + 1) (g 0 (ar + 1))) : mpG T n (D + 7) 129 ar (pO T n g 4 ar) := by
  intro r S h
  cases r with
  | inr e => exact ⟨S, mF_129 (show Fm T n e.1 e.2 S from h) _ (D + 6), h, frM.rf S⟩
  | inl x =>
    obtain ⟨s, c⟩ := x
    have hs : s ≤ n := h.1
    have hc : c.length ≤ s := h.2.1
    have hM : OKm T n s c S := h.2.2
    obtain ⟨m1, m2, m3, -⟩ := kM_1 (T := T) (n := n) (s := s)
    have k2 : S.1 70 20 = iI (kM T n s) := hM.2.1.2.1
    have hb := nb_0 (s := s) hM.t
    have hw := wv_r (wd T n s) (wd_17 (T := T) (n := n) (s := s))
    rw [zx_129, if_pos (show S.1 70 24 = 0 from hM.2.2.1), zq_129_8, k2, show pB (Sum.inl (s, c)) (pO T n g 4 ar) = pO T n g 4 ar s c from rfl]
    unfold pO
    rw [if_neg (show ¬ 4 < 4 by omega)]
    by_cases q1 : kd T n s = 1
    · have hlt := kd_lt (T := T) (n := n) (s := s) (by omega)
      have hx := nx_r (T := T) hlt
      obtain ⟨x, S1, b1, b2, b3, b4⟩ := m_nm hn (lo := 0) (hi := 9999) (by omega) (by omega) (by omega) hs hc hM (D + 3)
      rw [if_pos (show iI (kM T n s) = nI 2 by rw [m1.mpr q1]; rfl), show nI 0 = iI 0 from rfl, show nI 9999 = iI 9999 from rfl, b1, cli_i, if_neg (show ¬ kd T n s = 40 by omega)]
      unfold pPt
      rw [if_pos q1]
      unfold pNm at b2 b4
      rw [if_pos q1] at b2 b4
      by_cases c9 : 9999 < nb T n s
      · rw [if_neg (by omega)] at b2
        rw [if_pos c9, mp_layF (show Fm T n 2 s S1 from b2), clv_v]
        exact ⟨S1, rfl, b2, b3⟩
      · rw [if_pos (by omega)] at b2 b4
        obtain ⟨S2, e1, e2, e3⟩ := mp_lay b2.2.2 (by show c.length < 700; omega) (nb T n s) (D + 5)
        rw [if_neg c9, b4 _ rfl, e1, clv_v]
        refine ⟨S2, rfl, ⟨hx.2, ?_, e2⟩, b3.tr e3⟩
        show (c ++ [nb T n s]).length ≤ nx T n s
        rw [List.length_append]
        show c.length + 1 ≤ _
        omega
    · rw [if_neg (show ¬ iI (kM T n s) = nI 2 by rw [show nI 2 = iI 2 from rfl, iI_eq (by omega) (by omega) (by omega) (by omega)]; exact fun q => q1 (m1.mp q)), zq_129_29, k2]
      by_cases q2 : kd T n s = 2
      · have hlt := kd_lt (T := T) (n := n) (s := s) (by omega)
        have hx := nx_r (T := T) hlt
        have e124 : z_ew (D + 6) 124 [.ref 70, .ref 71] S = some (.inl (some (.int (iI (wvI (wd T n s))))), S) := by
          rw [zx_124, iI_n 0]
          exact m_whL hn hs hM (D + 4) 7 0 999999 (by omega) (by omega) (fun i hi => absurd hi (by omega))
        rw [if_pos (show iI (kM T n s) = nI 1 by rw [m2.mpr q2]; rfl), e124, cli_i, if_neg (show ¬ kd T n s = 40 by omega)]
        unfold pPt
        rw [if_neg q1, if_pos q2]
        by_cases c9 : wvI (wd T n s) = -1
        · obtain ⟨S1, b1, b2, b3⟩ := mp_wr (k := 3) (by omega) hs hM (D + 5)
          rw [if_pos c9, if_pos (by rw [c9]; rfl), show nI 3 = iI 3 from rfl, b1, clv_v, zq_129_56, mp_layF b2, clv_v, if_neg b2.ne, zq_129_74]
          exact ⟨S1, rfl, b2, b3⟩
        · obtain ⟨S1, b1, b2, b3⟩ := mp_lay hM (by omega) (-1 - wvI (wd T n s)) (D + 5)
          obtain ⟨S2, e1, e2, e3⟩ := m_nx hn hs b2 (D + 4)
          rw [if_neg c9, if_neg (by rw [show (-nI 1 : Int32) = iI (-1) from rfl, iI_eq (by omega) (by omega) (by omega) (by omega)]; exact c9), zq_129_56, show (-nI 1 : Int32) = iI (-1) from rfl, iI_sub, b1, clv_v, if_pos (show S1.1 70 24 = 0 from b2.2.2.1), e1, clv_v, zq_129_74]
          refine ⟨S2, rfl, ⟨hx.2, ?_, e2⟩, b3.tr e3⟩
          show (c ++ [-1 - wvI (wd T n s)]).length ≤ nx T n s
          rw [List.length_append]
          show c.length + 1 ≤ _
          omega
      · obtain ⟨S1, b1, b2, b3⟩ := m_sg hn (sg := 40) (by decide) h (D + 3)
        have b2 : RM T n (pSg T n 40 s c) S1 := b2
        rw [if_neg (show ¬ iI (kM T n s) = nI 1 by rw [show nI 1 = iI 1 from rfl, iI_eq (by omega) (by omega) (by omega) (by omega)]; exact fun q => q2 (m2.mp q)), zq_129_75, show nI 40 = iI 40 from rfl, b1, clv_v, iI_n 1, iI_add, show (ar : Int) + ((1 : Nat) : Int) = ((ar + 1 : Nat) : Int) by omega, show nI 41 = iI 41 from rfl]
        unfold pSg at b2
        by_cases q4 : kd T n s = 40
        · rw [if_pos q4] at b2 ⊢
          by_cases h5 : ar < 5
          · obtain ⟨S2, e1, e2, e3⟩ := hE h5 _ S1 b2
            have e2 : RM T n (g 0 (ar + 1) (nx T n s) c) S2 := e2
            obtain ⟨S3, f1, f2, f3⟩ := m_sg hn (sg := 41) (by decide) e2 (D + 3)
            rw [e1, clv_v, f1, clv_v, if_pos h5]
            exact ⟨S3, rfl, f2, b3.tr (e3.tr f3)⟩
          · obtain ⟨S2, e1, e2, e3⟩ := m_e6 (D := D) hn b2.1 b2.2.2
            obtain ⟨S3, f1, f2, f3⟩ := m_sg hn (sg := 41) (by decide) e2 (D + 3)
            rw [show ar + 1 = 6 by omega, e1, clv_v, f1, clv_v, if_neg h5]
            refine ⟨S3, rfl, ?_, b3.tr (e3.tr f3)⟩
            by_cases km : kd T n (nx T n s) = 1 ∨ kd T n (nx T n s) = 2 ∨ kd T n (nx T n s) = 40
            · rw [if_pos km] at f2 ⊢
              exact f2
            · rw [if_neg km] at f2 ⊢
              exact f2
        · rw [if_neg q4] at b2 ⊢
          obtain ⟨S3, f1, f2, f3⟩ := m_sg hn (sg := 41) (by decide) b2 (D + 3)
          unfold pPt
          rw [if_neg q1, if_neg q2, mF_134 (show Fm T n 1 s S1 from b2), clv_v, f1, clv_v]
          exact ⟨S3, rfl, f2, b3.tr f3⟩
theorem m_lev (hn : n ≤ 700) (hT : ∀ k, k < n → 0 ≤ T k ∧ T k ≤ 255) : ∀ (f lev ar d : Nat), f = 5 * (5 - ar) + (5 - lev) → lev ≤ 4 → ar ≤ 5 → mpG T n (d + 2 * f + 6) (134 - lev) ar (pL T n f lev ar)
  | 0, lev, ar, d, hf, hl, ha => by omega
  | f + 1, lev, ar, d, hf, hl, ha => by
    have hG : ∀ s c, s ≤ n → pG n (f + 1) s c (pO T n (pL T n f) lev ar s c) := fun s c hs => pO_g hT (by omega) (pL_g hT f) lev ar s c hs
    have hop : lev < 4 → mpG T n (d + 2 * f + 7) (134 - (lev + 1)) ar (pO T n (pL T n f) lev ar) := fun h4 => by
      rw [pO_lt h4, show d + 2 * f + 7 = d + 1 + 2 * f + 6 by omega]
      exact m_lev hn hT f (lev + 1) ar (d + 1) (by omega) (by omega) ha
    show mpG T n (d + 2 * (f + 1) + 6) (134 - lev) ar (pV T n (pO T n (pL T n f) lev ar) lev)
    rw [show d + 2 * (f + 1) + 6 = d + 2 * f + 8 by omega]
    have hl5 : lev = 0 ∨ lev = 1 ∨ lev = 2 ∨ lev = 3 ∨ lev = 4 := by omega
    rcases hl5 with rfl | rfl | rfl | rfl | rfl
    · exact m_lv134 (D := d + 2 * f + 5) hn ha (hop (by omega)) hG (fun s c hk => by
        rw [pO_lt (by omega)]
        exact pL_no hk f 1 ar (by omega) (by omega))
    · exact m_lv133 (D := d + 2 * f + 5) hn (hop (by omega)) hG
    · exact m_lv132 (D := d + 2 * f + 4) hn (hop (by omega)) hG
    · exact m_lv131 (D := d + 2 * f + 5) hn (hop (by omega)) hG
    · exact m_lv130 (D := d + 2 * f + 5) hn (m_part (D := d + 2 * f) hn ha (fun h5 => m_lev hn hT f 0 (ar + 1) d (by omega) (by omega) (by omega))) hG
end MQ
