/-! the model's parser: nots, parts, a whole law -/
theorem pO_lt {T : Nat → Int} {n lev ar : Nat} {g : Nat → Nat → Nat → List Int → pR} (h : lev < 4) : pO T n g lev ar = g (lev + 1) ar := by
  funext s c
  unfold pO
  rw [if_pos h]
section MN
variable {T : Nat → Int} {n : Nat}
theorem pL_no {s : Nat} {c : List Int} (hk : ¬ (kd T n s = 1 ∨ kd T n s = 2 ∨ kd T n s = 40)) : ∀ (f lev ar : Nat), f = 5 * (5 - ar) + (5 - lev) → lev ≤ 4 → pL T n f lev ar s c = .inr (1, s)
  | 0, lev, ar, hf, hl => by omega
  | f + 1, lev, ar, hf, hl => by
    have ho : pO T n (pL T n f) lev ar s c = .inr (1, s) := by
      by_cases h4 : lev < 4
      · rw [pO_lt h4]
        exact pL_no hk f (lev + 1) ar (by omega) (by omega)
      · unfold pO
        rw [if_neg h4, if_neg (by omega)]
        unfold pPt
        rw [if_neg (by omega), if_neg (by omega)]
    have hw : wd T n s = 0 := wd_0 (by omega)
    have hp : pNt T n 6 s = (0, s) := by
      unfold pNt
      rw [if_neg (by omega)]
    rw [pL_s]
    unfold pV
    by_cases h2 : lev = 2
    · rw [if_pos h2, hp, if_neg (by show ¬ wd T n s = 10; omega), ho]
      rfl
    · rw [if_neg h2, ho]
      rfl
theorem m_t96 (hn : n ≤ 700) (D k : Nat) (hk : k ≤ 7) : ∀ (j i fu : Nat) (r : pR) (d1 : Option Value) (S : z_St), i + j = k → j + 2 ≤ fu → RM T n r S → (∀ x, r = .inl x → x.2.length + j ≤ x.1) → ∃ S', z_R132 (D + 1) fu 96 0 [some (.ref 70), d1, some (.int (iI (k : Int))), some (.int (iI (i : Int)))] [] S = some (.inl none, S') ∧ RM T n (pB r (fun s c => .inl (s, c ++ List.replicate j (-28)))) S' ∧ frM S S' := by
  intro j
  induction j with
  | zero =>
    intro i fu r d1 S hi hf h _
    obtain ⟨fu, rfl⟩ : ∃ f, fu = f + 2 := ⟨fu - 2, by omega⟩
    refine ⟨S, ?_, ?_, frM.rf S⟩
    · rw [zq_132_96, if_pos (by rw [iI_le (by omega) (by omega) (by omega) (by omega)]; omega), zq_132_113]
    · rw [pB_r0]
      exact h
  | succ j ih =>
    intro i fu r d1 S hi hf h hb
    obtain ⟨fu, rfl⟩ : ∃ f, fu = f + 1 := ⟨fu - 1, by omega⟩
    rw [zq_132_96, if_neg (by rw [iI_le (by omega) (by omega) (by omega) (by omega)]; omega), show (-nI 28 : Int32) = iI (-28) from rfl, iI_n 1, iI_add, show (i : Int) + ((1 : Nat) : Int) = ((i + 1 : Nat) : Int) by omega]
    cases r with
    | inl x =>
      obtain ⟨s, c⟩ := x
      have hbb : c.length + (j + 1) ≤ s := hb _ rfl
      have hs : s ≤ n := h.1
      have hO : OKm T n s c S := h.2.2
      obtain ⟨S1, b1, b2, b3⟩ := mp_lay hO (by omega) (-28) D
      have hl : (c ++ [(-28 : Int)]).length = c.length + 1 := by rw [List.length_append]; rfl
      obtain ⟨S2, e1, e2, e3⟩ := ih (i + 1) fu (.inl (s, c ++ [-28])) none S1 (by omega) (by omega) ⟨hs, by show (c ++ [(-28 : Int)]).length ≤ s; omega, b2⟩ (fun x hx => by cases hx; show (c ++ [(-28 : Int)]).length + j ≤ s; omega)
      refine ⟨S2, ?_, ?_, b3.tr e3⟩
      · rw [b1, clv_v, e1]
      · have e2 : RM T n (.inl (s, c ++ [-28] ++ List.replicate j (-28))) S2 := e2
        rw [List.append_assoc] at e2
        exact e2
    | inr e =>
      obtain ⟨S2, e1, e2, e3⟩ := ih (i + 1) fu (.inr e) none S (by omega) (by omega) h (fun x hx => by cases hx)
      refine ⟨S2, ?_, e2, e3⟩
      rw [mp_layF (show Fm T n e.1 e.2 S from h), clv_v, e1]
theorem m_t94 (hn : n ≤ 700) (D k fu : Nat) (hk : k ≤ 7) (hf : k + 3 ≤ fu) (r : pR) (S : z_St) (h : RM T n r S) (hb : ∀ x, r = .inl x → x.2.length + k ≤ x.1) (d1 d3 : Option Value) : ∃ S', z_R132 (D + 1) fu 94 0 [some (.ref 70), d1, some (.int (iI (k : Int))), d3] [] S = some (.inl none, S') ∧ RM T n (pB r (fun s c => .inl (s, c ++ List.replicate k (-28)))) S' ∧ frM S S' := by
  obtain ⟨fu, rfl⟩ : ∃ f, fu = f + 1 := ⟨fu - 1, by omega⟩
  obtain ⟨S1, b1, b2, b3⟩ := m_t96 hn D k hk k 0 fu r none S (by omega) (by omega) h hb
  refine ⟨S1, ?_, b2, b3⟩
  rw [zq_132_94, iI_n 0]
  exact b1
theorem m_nt (hn : n ≤ 700) {D ar : Nat} {c : List Int} : ∀ (j k0 s fu : Nat) (d3 : Option Value) (S : z_St), j + k0 = 6 → 2 * j + 4 ≤ fu → s ≤ n → c.length ≤ s → OKm T n s c S → ∃ S' k fu', z_R132 (D + 2) fu 2 0 [some (.ref 70), some (.int (iI (ar : Int))), some (.int (iI (k0 : Int))), d3] [] S = z_R132 (D + 2) fu' 40 0 [some (.ref 70), some (.int (iI (ar : Int))), some (.int (iI ((k : Nat) : Int))), none] [] S' ∧ fu ≤ fu' + (2 * j + 4) ∧ k ≤ 7 ∧ RM T n (if wd T n (pNt T n j s).2 = 10 then .inr (2, (pNt T n j s).2) else .inl ((pNt T n j s).2, c)) S' ∧ (wd T n (pNt T n j s).2 ≠ 10 → k = k0 + (pNt T n j s).1) ∧ frM S S' := by
  have no : ∀ (k0 s fu : Nat) (d3 : Option Value) (S : z_St), s ≤ n → OKm T n s c S → wd T n s ≠ 10 → z_R132 (D + 2) (fu + 1) 2 0 [some (.ref 70), some (.int (iI (ar : Int))), some (.int (iI (k0 : Int))), d3] [] S = z_R132 (D + 2) fu 40 0 [some (.ref 70), some (.int (iI (ar : Int))), some (.int (iI (k0 : Int))), none] [] S := by
    intro k0 s fu d3 S hs h e
    rw [zq_132_2, show (1210 : Nat) = 1200 + 10 from rfl, m_isO hn hs h (by omega) (by omega) (D + 1), cli_i, decide_eq_false e, if_pos (show bI false = 0 by rfl)]
  intro j
  induction j with
  | zero =>
    intro k0 s fu d3 S hj hf hs hc h
    rw [show pNt T n 0 s = (0, s) from rfl]
    dsimp only
    obtain ⟨fu, rfl⟩ : ∃ f, fu = f + 3 := ⟨fu - 3, by omega⟩
    by_cases e : wd T n s = 10
    · obtain ⟨S1, b1, b2, b3⟩ := mp_wr (k := 2) (by omega) hs h (D + 1)
      rw [if_pos e]
      refine ⟨S1, 7, fu, ?_, by omega, by omega, b2, fun q => absurd e q, b3⟩
      rw [zq_132_2, show (1210 : Nat) = 1200 + 10 from rfl, m_isO hn hs h (by omega) (by omega) (D + 1), cli_i, decide_eq_true e, if_neg (show ¬ bI true = 0 by decide +kernel), if_pos (show iI (k0 : Int) = nI 6 by rw [show k0 = 6 by omega]; rfl), show nI 2 = iI 2 from rfl, b1, clv_v, zq_132_23, if_neg b2.ne, zq_132_2, show (1210 : Nat) = 1200 + 10 from rfl, m_isF hn b2 (by omega) (by omega) (D + 1), cli_i, if_pos (show bI false = 0 by rfl), show k0 = 6 by omega]
      rfl
    · rw [if_neg e]
      exact ⟨S, k0, fu + 2, no k0 s (fu + 2) d3 S hs h e, by omega, by omega, ⟨hs, hc, h⟩, fun _ => rfl, frM.rf S⟩
  | succ j ih =>
    intro k0 s fu d3 S hj hf hs hc h
    obtain ⟨fu, rfl⟩ : ∃ f, fu = f + 2 := ⟨fu - 2, by omega⟩
    unfold pNt
    by_cases e : wd T n s = 10
    · have hx := nx_r (T := T) (wd_lt (T := T) (n := n) (s := s) (by omega)).1
      obtain ⟨S1, b1, b2, b3⟩ := m_nx hn hs h D
      obtain ⟨S2, k, fu', e1, e2, e3, e4, e5, e6⟩ := ih (k0 + 1) (nx T n s) fu none S1 (by omega) (by omega) hx.2 (by omega) b2
      rw [if_pos e]
      refine ⟨S2, k, fu', ?_, by omega, e3, e4, fun q => ?_, b3.tr e6⟩
      · rw [zq_132_2, show (1210 : Nat) = 1200 + 10 from rfl, m_isO hn hs h (by omega) (by omega) (D + 1), cli_i, decide_eq_true e, if_neg (show ¬ bI true = 0 by decide +kernel), if_neg (show ¬ iI (k0 : Int) = nI 6 by rw [show nI 6 = iI 6 from rfl, iI_eq (by omega) (by omega) (by omega) (by omega)]; omega), zq_132_23, if_pos (show S.1 70 24 = 0 from h.2.2.1), b1, clv_v, iI_n 1, iI_add, show (k0 : Int) + ((1 : Nat) : Int) = ((k0 + 1 : Nat) : Int) by omega, e1]
      · have := e5 q
        show k = k0 + ((pNt T n j (nx T n s)).1 + 1)
        omega
    · rw [if_neg e]
      exact ⟨S, k0, fu + 1, no k0 s (fu + 1) d3 S hs h e, by omega, by omega, by
        show RM T n (if wd T n s = 10 then .inr (2, s) else .inl (s, c)) S
        rw [if_neg e]
        exact ⟨hs, hc, h⟩, fun _ => rfl, frM.rf S⟩
theorem m_lv132 (hn : n ≤ 700) {D ar f : Nat} {o : Nat → List Int → pR} (hO : mpG T n (D + 3) 131 ar o) (hg : ∀ s c, s ≤ n → pG n f s c (o s c)) : mpG T n (D + 4) 132 ar (pV T n o 2) := by
  intro r S h
  cases r with
  | inr e => exact ⟨S, mF_132 hn (show Fm T n e.1 e.2 S from h) _ D, h, frM.rf S⟩
  | inl x =>
    obtain ⟨s, c⟩ := x
    have hs : s ≤ n := h.1
    have hc : c.length ≤ s := h.2.1
    have hng := pNt_g (T := T) (n := n) 6 s hs
    obtain ⟨S1, k, fu', b1, b2, b3, b4, b5, b6⟩ := m_nt (D := D + 1) (ar := ar) (c := c) hn 6 0 s 999999 none S (by omega) (by omega) hs hc h.2.2
    obtain ⟨g, rfl⟩ : ∃ g, fu' = g + 20 := ⟨fu' - 20, by omega⟩
    rw [zx_132, iI_n 0, b1, zq_132_40, show pB (Sum.inl (s, c)) (pV T n o 2) = pV T n o 2 s c from rfl]
    unfold pV
    rw [if_pos rfl]
    obtain ⟨s1, hs1⟩ : ∃ s1, s1 = (pNt T n 6 s).2 := ⟨_, rfl⟩
    obtain ⟨k1, hk1⟩ : ∃ k1, k1 = (pNt T n 6 s).1 := ⟨_, rfl⟩
    rw [← hk1] at hng b5 ⊢
    rw [← hs1] at hng b4 b5 ⊢
    by_cases ew : wd T n s1 = 10
    · rw [if_pos ew] at b4 ⊢
      obtain ⟨S2, e1, e2, e3⟩ := hO _ S1 b4
      have e2 : Fm T n 2 s1 S2 := e2
      obtain ⟨S3, f1, f2, f3⟩ := m_t94 hn (D + 2) k (g + 19) b3 (by omega) (.inr (2, s1)) S2 e2 (fun x hx => by cases hx) (some (.int (iI (ar : Int)))) none
      refine ⟨S3, ?_, f2, b6.tr (e3.tr f3)⟩
      rw [e1, clv_v, m_ismF e2, cli_i, if_pos (show bI false = 0 by rfl), m_ismF e2, cli_i, if_pos (show bI false = 0 by rfl), f1]
    · rw [if_neg ew] at b4 ⊢
      obtain ⟨S2, e1, e2, e3⟩ := hO _ S1 b4
      have e2 : RM T n (o s1 c) S2 := e2
      have hk := b5 ew
      rw [e1, clv_v]
      cases hr : o s1 c with
      | inr y =>
        rw [hr] at e2
        have e2 : Fm T n y.1 y.2 S2 := e2
        obtain ⟨S3, f1, f2, f3⟩ := m_t94 hn (D + 2) k (g + 19) b3 (by omega) (.inr y) S2 e2 (fun x hx => by cases hx) (some (.int (iI (ar : Int)))) none
        refine ⟨S3, ?_, f2, b6.tr (e3.tr f3)⟩
        rw [m_ismF e2, cli_i, if_pos (show bI false = 0 by rfl), m_ismF e2, cli_i, if_pos (show bI false = 0 by rfl), f1]
      | inl y =>
        obtain ⟨s2, c2⟩ := y
        rw [hr] at e2
        have hO2 : OKm T n s2 c2 S2 := e2.2.2
        obtain ⟨g1, g2, w, g3, g4, -, -⟩ := hg _ _ hng.2.1 s2 c2 hr
        have hl1 : c2.length = c.length + w.length := by rw [g3, List.length_append]
        rw [show pB (Sum.inl (s2, c2)) (fun s' c' => pB (pLp T n o 2 1 s' c') (fun s2 c2 => Sum.inl (s2, c2 ++ List.replicate k1 (-28)))) = pB (pLp T n o 2 1 s2 c2) (fun s2 c2 => Sum.inl (s2, c2 ++ List.replicate k1 (-28))) from rfl, show k1 = k by omega]
        unfold pLp
        by_cases e : kd T n s2 = 60 ∨ kd T n s2 = 61
        · have hj : jn T n s2 = ((2 : Nat) : Int) := by
            unfold jn
            rw [if_neg (by omega), if_neg (by omega), if_pos e]
            rfl
          have hx := nx_r (T := T) (jn_lt (T := T) (n := n) (s := s2) (by omega))
          have hwd := wd_0 (T := T) (n := n) (s := s2) (by omega)
          obtain ⟨S3, i1, i2, i3⟩ := m_nx hn g2 hO2 (D + 1)
          obtain ⟨S4, j1, j2, j3⟩ := hO (.inl (nx T n s2, c2)) S3 ⟨hx.2, by show c2.length ≤ nx T n s2; omega, i2⟩
          have j2 : RM T n (o (nx T n s2) c2) S4 := j2
          rw [if_pos hj]
          have fin : ∀ fu, 15 ≤ fu → ∃ S', z_R132 (D + 3) (fu + 1) 79 0 [some (.ref 70), some (.int (iI (ar : Int))), some (.int (iI ((k : Nat) : Int))), none] [.int (iI (opC T n s2))] S2 = some (.inl none, S') ∧ RM T n (pB (pB (o (nx T n s2) c2) (fun s' c' => pLp T n o 2 0 s' (c' ++ [opC T n s2]))) (fun s2 c2 => .inl (s2, c2 ++ List.replicate k (-28)))) S' ∧ frM S2 S' := by
            intro fu hf
            rw [zq_132_79, i1, clv_v, j1, clv_v]
            cases hr2 : o (nx T n s2) c2 with
            | inl y =>
              obtain ⟨s3, c3⟩ := y
              rw [hr2] at j2
              have hO3 : OKm T n s3 c3 S4 := j2.2.2
              obtain ⟨p1, p2, w3, p3, p4, -, -⟩ := hg _ _ hx.2 s3 c3 hr2
              have hl3 : c3.length = c2.length + w3.length := by rw [p3, List.length_append]
              obtain ⟨S5, l1, l2, l3⟩ := mp_lay hO3 (by omega) (opC T n s2) (D + 2)
              have hl : (c3 ++ [opC T n s2]).length = c3.length + 1 := by rw [List.length_append]; rfl
              obtain ⟨S6, t1, t2, t3⟩ := m_t94 hn (D + 2) k fu b3 (by omega) (.inl (s3, c3 ++ [opC T n s2])) S5 ⟨p2, by show (c3 ++ [opC T n s2]).length ≤ s3; omega, l2⟩ (fun x hx => by cases hx; show (c3 ++ [opC T n s2]).length + k ≤ s3; omega) (some (.int (iI (ar : Int)))) (some (.int (iI (opC T n s2))))
              refine ⟨S6, ?_, t2, i3.tr (j3.tr (l3.tr t3))⟩
              rw [l1, clv_v, t1]
            | inr y =>
              rw [hr2] at j2
              have j2 : Fm T n y.1 y.2 S4 := j2
              obtain ⟨S6, t1, t2, t3⟩ := m_t94 hn (D + 2) k fu b3 (by omega) (.inr y) S4 j2 (fun x hx => by cases hx) (some (.int (iI (ar : Int)))) (some (.int (iI (opC T n s2))))
              refine ⟨S6, ?_, t2, i3.tr (j3.tr t3)⟩
              rw [mp_layF j2, clv_v, t1]
          by_cases eA : kd T n s2 = 60
          · have ho : opC T n s2 = -24 := by
              unfold opC
              rw [hwd, eA]
              rfl
            obtain ⟨S6, t1, t2, t3⟩ := fin (g + 17) (by omega)
            refine ⟨S6, ?_, t2, b6.tr (e3.tr t3)⟩
            rw [show nI 60 = iI 60 from rfl, m_ism hn (by decide) hO2 (D + 2), cli_i, decide_eq_true eA, if_neg (show ¬ bI true = 0 by decide +kernel), zq_132_63, show nI 60 = iI 60 from rfl, m_ism hn (by decide) hO2 (D + 2), cli_i, decide_eq_true eA, if_neg (show ¬ bI true = 0 by decide +kernel), show (-nI 24 : Int32) = iI (opC T n s2) by rw [ho]; rfl]
            exact t1
          · have eB : kd T n s2 = 61 := by omega
            have ho : opC T n s2 = -25 := by
              unfold opC
              rw [hwd, eB]
              rfl
            obtain ⟨S6, t1, t2, t3⟩ := fin (g + 16) (by omega)
            refine ⟨S6, ?_, t2, b6.tr (e3.tr t3)⟩
            rw [show nI 60 = iI 60 from rfl, m_ism hn (by decide) hO2 (D + 2), cli_i, decide_eq_false eA, if_pos (show bI false = 0 by rfl), show nI 61 = iI 61 from rfl, m_ism hn (by decide) hO2 (D + 2), cli_i, decide_eq_true eB, if_neg (show ¬ bI true = 0 by decide +kernel), zq_132_63, show nI 60 = iI 60 from rfl, m_ism hn (by decide) hO2 (D + 2), cli_i, decide_eq_false eA, if_pos (show bI false = 0 by rfl), zq_132_77, show (-nI 25 : Int32) = iI (opC T n s2) by rw [ho]; rfl]
            exact t1
        · obtain ⟨S3, f1, f2, f3⟩ := m_t94 hn (D + 2) k (g + 19) b3 (by omega) (.inl (s2, c2)) S2 e2 (fun x hx => by cases hx; show c2.length + k ≤ s2; omega) (some (.int (iI (ar : Int)))) none
          rw [if_neg (by
            unfold jn
            repeat' split
            all_goals omega)]
          refine ⟨S3, ?_, f2, b6.tr (e3.tr f3)⟩
          rw [show nI 60 = iI 60 from rfl, m_ism hn (by decide) hO2 (D + 2), cli_i, decide_eq_false (by omega), if_pos (show bI false = 0 by rfl), show nI 61 = iI 61 from rfl, m_ism hn (by decide) hO2 (D + 2), cli_i, decide_eq_false (by omega), if_pos (show bI false = 0 by rfl), f1]
end MN
