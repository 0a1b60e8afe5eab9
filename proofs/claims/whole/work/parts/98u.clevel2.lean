/-! the class's parser: a whole law -/
section CM
variable {T : Nat → Int} {n q : Nat}
theorem c_lv (hq : q = 2 ∨ q = 12) (hn : n ≤ 700) {D lev ar f : Nat} (hlev : lev ≤ 4) {o : Nat → List Int → pR} (hO : opG T n q (D + 5) lev ar o) (hg : ∀ s c, s ≤ n → pG n f s c (o s c)) : lvG T n q (D + 6) lev ar (pV T n o lev) := by
  intro r S h
  rw [zx_30, show nI 2 = iI ((2 : Nat) : Int) from rfl]
  have lpF := fun (k most fu : Nat) (h1 : k ≤ 6) (h2 : most ≤ 700) (h3 : k + 4 ≤ fu) (e : Int × Nat) (S : z_St) (h : RC T n q (.inr e) S) => c_lpF (D := D + 4) (lev := lev) (ar := ar) (k := k) (most := most) (i := 0) (fu := fu) hq hn hlev h1 h2 (by omega) h3 h none
  by_cases h2 : lev = 2
  · rw [if_pos (by rw [h2])]
    have nod : ∀ fu t0 S, z_R30 (D + 5) (fu + 3) 13 0 [some (.ref 22), some (.int (iI (lev : Int))), some (.int (iI (ar : Int))), none, none, none, none] [.int t0] S = z_clv (z_ew (D + 5) 31 [.ref 22, .int (iI (lev : Int)), .int (iI (ar : Int))] S) (fun S1 => z_R30 (D + 5) (fu + 1) 37 0 [some (.ref 22), some (.int (iI (lev : Int))), some (.int (iI (ar : Int))), some (.int t0), some (.int (iI ((1 : Nat) : Int))), some (.int (iI ((0 : Nat) : Int))), none] [] S1) (z_hnd []) := by
      intro fu t0 S
      rw [zq_30_13, show nI 2 = iI ((2 : Nat) : Int) from rfl]
      congr 1
      funext S1
      rw [if_pos (show iI (lev : Int) = iI ((2 : Nat) : Int) by rw [h2]), zq_30_32]
      rfl
    cases r with
    | inl x =>
      obtain ⟨s, c⟩ := x
      have hs : s ≤ n := h.1
      have hc : c.length ≤ s := h.2.1
      have hng := pNt_g (T := T) (n := n) 6 s hs
      obtain ⟨S1, b1, b2, b3⟩ := c_ntL (T := T) (c := c) hq hn D 6 0 s 999999 S (by omega) (by omega) hs hc h.2.2
      have b0 : z_ew (D + 5) 33 [.ref 22] S = some (.inl (some (.int (iI (((pNt T n 6 s).1 : Nat) : Int)))), S1) := by
        rw [zx_33, iI_n 0, b1, Nat.zero_add]
      rw [b0, cli_i, show (999999 : Nat) = 999996 + 3 from rfl, nod 999996]
      rw [show pB (Sum.inl (s, c)) (pV T n o lev) = pV T n o lev s c from rfl]
      unfold pV
      rw [if_pos h2]
      obtain ⟨k, hk⟩ : ∃ k, k = (pNt T n 6 s).1 := ⟨_, rfl⟩
      obtain ⟨s1, hs1⟩ : ∃ s1, s1 = (pNt T n 6 s).2 := ⟨_, rfl⟩
      rw [← hk] at hng ⊢
      rw [← hs1] at hng b2 ⊢
      by_cases ew : wd T n s1 = 10
      · rw [if_pos ew] at b2 ⊢
        obtain ⟨S2, e1, e2, e3⟩ := hO _ S1 b2
        obtain ⟨S3, f1, f2, f3⟩ := lpF k 1 999997 hng.2.2 (by omega) (by omega) _ S2 e2
        refine ⟨S3, ?_, f2, b3.tr (e3.tr f3)⟩
        rw [e1, clv_v, f1]
      · rw [if_neg ew] at b2 ⊢
        obtain ⟨S2, e1, e2, e3⟩ := hO _ S1 b2
        have e2 : RC T n q (o s1 c) S2 := e2
        rw [e1, clv_v]
        cases hr : o s1 c with
        | inl y =>
          obtain ⟨s2, c2⟩ := y
          rw [hr] at e2
          obtain ⟨g1, g2, w, g3, g4, -, -⟩ := hg _ _ hng.2.1 s2 c2 hr
          have hl1 : c2.length = c.length + w.length := by rw [g3, List.length_append]
          obtain ⟨S3, f1, f2, f3⟩ := c_lp (T := T) (D := D + 2) (lev := lev) (ar := ar) (k := k) (most := 1) (f := f) hq hn hlev hng.2.2 (by omega) hO hg 1 0 999997 s2 c2 none S2 (by omega) (by omega) g2 (by omega) e2.2.2
          rw [h2] at f2
          exact ⟨S3, f1, f2, b3.tr (e3.tr f3)⟩
        | inr y =>
          rw [hr] at e2
          obtain ⟨S3, f1, f2, f3⟩ := lpF k 1 999997 hng.2.2 (by omega) (by omega) _ S2 e2
          exact ⟨S3, f1, f2, b3.tr (e3.tr f3)⟩
    | inr e =>
      rw [c_ntF h (D + 3), cli_i, show (999999 : Nat) = 999996 + 3 from rfl, nod 999996]
      obtain ⟨S2, e1, e2, e3⟩ := hO _ S h
      obtain ⟨S3, f1, f2, f3⟩ := lpF 0 1 999997 (by omega) (by omega) (by omega) _ S2 e2
      refine ⟨S3, ?_, f2, e3.tr f3⟩
      rw [e1, clv_v]
      exact f1
  · have nod : z_R30 (D + 5) 999999 12 0 [some (.ref 22), some (.int (iI (lev : Int))), some (.int (iI (ar : Int))), none, none, none, none] [] S = z_clv (z_ew (D + 5) 31 [.ref 22, .int (iI (lev : Int)), .int (iI (ar : Int))] S) (fun S1 => z_R30 (D + 5) 999995 37 0 [some (.ref 22), some (.int (iI (lev : Int))), some (.int (iI (ar : Int))), some (.int (iI ((0 : Nat) : Int))), some (.int (iI ((700 : Nat) : Int))), some (.int (iI ((0 : Nat) : Int))), none] [] S1) (z_hnd []) := by
      rw [zq_30_12, zq_30_13, show nI 2 = iI ((2 : Nat) : Int) from rfl, iI_n 0]
      congr 1
      funext S1
      rw [if_neg (by rw [iI_eq (by omega) (by omega) (by omega) (by omega)]; omega), zq_30_29, zq_30_32, iI_n 0, iI_n 700]
    rw [if_neg (by rw [iI_eq (by omega) (by omega) (by omega) (by omega)]; omega), nod]
    obtain ⟨S2, e1, e2, e3⟩ := hO _ S h
    rw [e1, clv_v]
    cases r with
    | inl x =>
      obtain ⟨s, c⟩ := x
      have hs : s ≤ n := h.1
      have hc : c.length ≤ s := h.2.1
      have e2 : RC T n q (o s c) S2 := e2
      rw [show pB (Sum.inl (s, c)) (pV T n o lev) = pV T n o lev s c from rfl]
      unfold pV
      rw [if_neg h2]
      cases hr : o s c with
      | inl y =>
        obtain ⟨s2, c2⟩ := y
        rw [hr] at e2
        have hs2 : s2 ≤ n := e2.1
        have hc2 : c2.length ≤ s2 := e2.2.1
        obtain ⟨S3, f1, f2, f3⟩ := c_lp (T := T) (D := D + 2) (lev := lev) (ar := ar) (k := 0) (most := 700) (f := f) hq hn hlev (by omega) (by omega) hO hg 700 0 999995 s2 c2 none S2 (by omega) (by omega) hs2 (by omega) e2.2.2
        rw [pB_r0] at f2
        exact ⟨S3, f1, f2, e3.tr f3⟩
      | inr y =>
        rw [hr] at e2
        obtain ⟨S3, f1, f2, f3⟩ := lpF 0 700 999995 (by omega) (by omega) (by omega) _ S2 e2
        exact ⟨S3, f1, f2, e3.tr f3⟩
    | inr e =>
      obtain ⟨S3, f1, f2, f3⟩ := lpF 0 700 999995 (by omega) (by omega) (by omega) _ S2 e2
      exact ⟨S3, f1, f2, e3.tr f3⟩
theorem c_o31 (hq : q = 2 ∨ q = 12) (hn : n ≤ 700) {D lev ar : Nat} (hlev : lev ≤ 4) (har : ar ≤ 5) {g : Nat → Nat → Nat → List Int → pR} (hA : lev < 4 → lvG T n q (D + 5) (lev + 1) ar (g (lev + 1) ar)) (hB : lev = 4 → ar < 5 → lvG T n q (D + 4) 0 (ar + 1) (g 0 (ar + 1))) : opG T n q (D + 6) lev ar (pO T n g lev ar) := by
  intro r S h
  rw [zx_31, iI_n 4]
  by_cases h4 : lev < 4
  · obtain ⟨S1, b1, b2, b3⟩ := hA h4 r S h
    refine ⟨S1, ?_, ?_, b3⟩
    · rw [if_neg (by rw [iI_le (by omega) (by omega) (by omega) (by omega)]; omega), iI_n 1, iI_add, show (lev : Int) + ((1 : Nat) : Int) = ((lev + 1 : Nat) : Int) by omega, b1, clv_v, zq_31_55]
    · cases r with
      | inl x =>
        show RC T n q (pO T n g lev ar x.1 x.2) S1
        unfold pO
        rw [if_pos h4]
        exact b2
      | inr e => exact b2
  · rw [if_pos (by rw [iI_le (by omega) (by omega) (by omega) (by omega)]; omega), zq_31_16]
    cases r with
    | inl x =>
      obtain ⟨s, c⟩ := x
      have hs : s ≤ n := h.1
      have hc : c.length ≤ s := h.2.1
      have hO : OKc T n q s c S := h.2.2
      have hk := kd_r (s := s) hO.t
      rw [show pB (Sum.inl (s, c)) (pO T n g lev ar) = pO T n g lev ar s c from rfl]
      unfold pO
      rw [if_neg h4, hO.2.1.2.2.1]
      by_cases k4 : kd T n s = 40
      · have hx := nx_r (T := T) (kd_lt (T := T) (n := n) (s := s) (by omega))
        obtain ⟨S1, b1, b2, b3⟩ := c_nx hq hn hs hO (D + 2)
        have r1 : RC T n q (.inl (nx T n s, c)) S1 := ⟨hx.2, by show c.length ≤ nx T n s; omega, b2⟩
        rw [if_pos (show iI (kd T n s) = nI 40 by rw [k4]; rfl), if_pos k4, b1, clv_v, iI_n 1, iI_add, show (ar : Int) + ((1 : Nat) : Int) = ((ar + 1 : Nat) : Int) by omega, zx_32, iI_n 5]
        by_cases h5 : ar < 5
        · obtain ⟨S2, e1, e2, e3⟩ := hB (by omega) h5 _ S1 r1
          have e2 : RC T n q (g 0 (ar + 1) (nx T n s) c) S2 := e2
          obtain ⟨S3, f1, f2, f3⟩ := c_sg hq hn (sg := 41) (by omega) (by omega) e2 (D + 1)
          rw [if_neg (by rw [iI_lt (by omega) (by omega) (by omega) (by omega)]; omega), if_pos h5, iI_n 0, e1, clv_v, zq_32_61, clv_v, show nI 41 = iI 41 from rfl, f1, clv_v, zq_31_55]
          exact ⟨S3, rfl, f2, b3.tr (e3.tr f3)⟩
        · rw [if_pos (by rw [iI_lt (by omega) (by omega) (by omega) (by omega)]; omega), if_neg h5, zq_32_14, b2.2.1.2.2.1]
          have hk1 := kd_r (s := nx T n s) b2.t
          have bad : ∀ k : Int, 1 ≤ k ∧ k ≤ 3 → ∃ S' S'', z_ew (D + 4) 24 [.ref 22, .int (iI k)] S1 = some (.inl none, S') ∧ z_ew (D + 5) 28 [.ref 22, .int (iI 41)] S' = some (.inl none, S'') ∧ RC T n q (.inr (k, nx T n s)) S'' ∧ frC q S1 S'' := by
            intro k hk
            obtain ⟨S2, e1, e2, e3⟩ := c_bad hq hn hk r1 (D + 2)
            obtain ⟨S3, f1, f2, f3⟩ := c_sg hq hn (sg := 41) (by omega) (by omega) e2 (D + 1)
            exact ⟨S2, S3, e1, f1, f2, e3.tr f3⟩
          by_cases km : kd T n (nx T n s) = 1 ∨ kd T n (nx T n s) = 2 ∨ kd T n (nx T n s) = 40
          · obtain ⟨S2, S3, e1, e2, e3, e4⟩ := bad 2 (by omega)
            rw [if_pos km]
            refine ⟨S3, ?_, e3, b3.tr e4⟩
            have go : z_clv (z_R32 (D + 4) 999998 48 0 [some (.ref 22), none] [] S1) (fun S2 => z_clv (z_ew (D + 5) 28 [.ref 22, .int (nI 41)] S2) (fun S3 => z_R31 (D + 5) 999998 55 0 [some (.ref 22), none, some (.int (iI (ar : Int)))] [] S3) (z_hnd [])) (z_hnd []) = some (.inl none, S3) := by
              rw [zq_32_48, show nI 2 = iI 2 from rfl, e1, clv_v, zq_32_61, clv_v, show nI 41 = iI 41 from rfl, e2, clv_v, zq_31_55]
            rcases km with km | km | km
            · rw [if_pos (show iI (kd T n (nx T n s)) = nI 1 by rw [km]; rfl)]
              exact go
            · rw [if_neg (show ¬ iI (kd T n (nx T n s)) = nI 1 by rw [km]; decide +kernel), if_pos (show iI (kd T n (nx T n s)) = nI 2 by rw [km]; rfl)]
              exact go
            · rw [if_neg (show ¬ iI (kd T n (nx T n s)) = nI 1 by rw [km]; decide +kernel), if_neg (show ¬ iI (kd T n (nx T n s)) = nI 2 by rw [km]; decide +kernel), if_pos (show iI (kd T n (nx T n s)) = nI 40 by rw [km]; rfl)]
              exact go
          · obtain ⟨S2, S3, e1, e2, e3, e4⟩ := bad 1 (by omega)
            rw [if_neg km]
            refine ⟨S3, ?_, e3, b3.tr e4⟩
            rw [if_neg (show ¬ iI (kd T n (nx T n s)) = nI 1 by rw [show nI 1 = iI 1 from rfl, iI_eq (by omega) (by omega) (by omega) (by omega)]; omega), if_neg (show ¬ iI (kd T n (nx T n s)) = nI 2 by rw [show nI 2 = iI 2 from rfl, iI_eq (by omega) (by omega) (by omega) (by omega)]; omega), if_neg (show ¬ iI (kd T n (nx T n s)) = nI 40 by rw [show nI 40 = iI 40 from rfl, iI_eq (by omega) (by omega) (by omega) (by omega)]; omega), zq_32_56, show nI 1 = iI 1 from rfl, e1, clv_v, zq_32_61, clv_v, show nI 41 = iI 41 from rfl, e2, clv_v, zq_31_55]
      · obtain ⟨S1, b1, b2, b3⟩ := c_pt hq hn h D
        rw [if_neg (show ¬ iI (kd T n s) = nI 40 by rw [show nI 40 = iI 40 from rfl, iI_eq (by omega) (by omega) (by omega) (by omega)]; exact k4), if_neg k4, zq_31_51, b1, clv_v, zq_31_55]
        exact ⟨S1, rfl, b2, b3⟩
    | inr e =>
      obtain ⟨S1, b1, b2, b3⟩ := c_pt hq hn h D
      rw [h.2.2.2.2.2.2.1, if_neg (by decide +kernel), zq_31_51, b1, clv_v, zq_31_55]
      exact ⟨S1, rfl, b2, b3⟩
theorem c_lev (hq : q = 2 ∨ q = 12) (hn : n ≤ 700) (hT : ∀ k, k < n → 0 ≤ T k ∧ T k ≤ 255) : ∀ (f lev ar d : Nat), f = 5 * (5 - ar) + (5 - lev) → lev ≤ 4 → ar ≤ 5 → lvG T n q (d + 3 * f + 6) lev ar (pL T n f lev ar)
  | 0, lev, ar, d, hf, hl, ha => by omega
  | f + 1, lev, ar, d, hf, hl, ha => by
    have h := c_lv (T := T) (D := d + 3 * f + 3) (f := f + 1) hq hn hl (c_o31 (T := T) (D := d + 3 * f + 2) (g := pL T n f) hq hn hl ha (fun h4 => by
      have := c_lev hq hn hT f (lev + 1) ar (d + 1) (by omega) (by omega) ha
      rw [show d + 1 + 3 * f + 6 = d + 3 * f + 2 + 5 by omega] at this
      exact this) (fun h4 h5 => by
      have := c_lev hq hn hT f 0 (ar + 1) d (by omega) (by omega) (by omega)
      exact this)) (fun s c hs => pO_g hT (by omega) (pL_g hT f) lev ar s c hs)
    rw [show d + 3 * (f + 1) + 6 = d + 3 * f + 3 + 6 by omega]
    exact h
end CM
