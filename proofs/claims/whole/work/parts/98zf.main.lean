/-! a whole text: the class's loop, the model's -/
def QC (T : Nat → Int) (n q : Nat) (r : pQ) (S : z_St) : Prop := match r with
  | .inl x => (∃ s, OKc T n q s x.1 S) ∧ PC q x.2 S
  | .inr e => Fc n q e.1 e.2 S
def QM (T : Nat → Int) (n : Nat) (r : pQ) (S : z_St) : Prop := match r with
  | .inl x => (∃ s, s ≤ n ∧ OKm T n s x.1 S) ∧ PM x.2 S
  | .inr e => Fm T n e.1 e.2 S
theorem pB_if {P : Prop} [Decidable P] {e : Int × Nat} {r : pR} {g : Nat → List Int → pR} : pB (if P then .inr e else r) g = if P then .inr e else pB r g := by
  split <;> rfl
section MAIN
variable {T : Nat → Int} {n q : Nat}
theorem c_main (hq : q = 2 ∨ q = 12) (hn : n ≤ 700) (hT : ∀ k, k < n → 0 ≤ T k ∧ T k ≤ 255) (d : Nat) : ∀ (m i fu s : Nat) (c : List Int) (B : aS) (d2 : Option Value) (S : z_St), i ≤ s → n - s ≤ m → s ≤ n → c.length ≤ s → OKc T n q s c S → PC q B S → 4 * m + 4 ≤ fu → ∃ S', z_R22 (d + 97) fu 32 0 [some (.ref 22), some (.int (iI (n : Int))), d2, some (.int (iI (i : Int)))] [] S = some (.inl (some (.int (S'.1 22 2))), S') ∧ QC T n q (pM T n m s c B) S' ∧ frD q S S' := by
  have stop : ∀ (i fu : Nat) (d2 : Option Value) (S : z_St), i ≤ n + 1 → S.1 23 3 = iI 0 → z_R22 (d + 97) (fu + 2) 32 0 [some (.ref 22), some (.int (iI (n : Int))), d2, some (.int (iI (i : Int)))] [] S = some (.inl (some (.int (S.1 22 2))), S) := by
    intro i fu d2 S hi h3
    rw [zq_22_32]
    by_cases e : n ≤ i
    · rw [if_pos (by rw [iI_le (by omega) (by omega) (by omega) (by omega)]; omega), zq_22_98]
    · rw [if_neg (by rw [iI_le (by omega) (by omega) (by omega) (by omega)]; omega), if_pos (show S.1 23 3 = 0 from h3), zq_22_98]
  intro m
  induction m with
  | zero =>
    intro i fu s c B d2 S hi hm hs hc h hP hf
    obtain ⟨fu, rfl⟩ : ∃ f, fu = f + 2 := ⟨fu - 2, by omega⟩
    have k0 : kd T n s = 0 := kd_0.mpr (by omega)
    refine ⟨S, stop i fu d2 S (by omega) (by rw [h.2.1.2.2.1, k0]), ⟨⟨s, h⟩, hP⟩, (frC.rf S).D⟩
  | succ m ih =>
    intro i fu s c B d2 S hi hm hs hc h hP hf
    obtain ⟨fu, rfl⟩ : ∃ f, fu = f + 4 := ⟨fu - 4, by omega⟩
    rw [pM_s]
    by_cases k0 : kd T n s = 0
    · rw [if_pos k0]
      exact ⟨S, stop i (fu + 2) d2 S (by have := kd_0.mp k0; omega) (by rw [h.2.1.2.2.1, k0]), ⟨⟨s, h⟩, hP⟩, (frC.rf S).D⟩
    · have hlt := kd_lt k0
      have hk := kd_r (s := s) h.t
      obtain ⟨w1, w2, w3⟩ := wd_c (S := S) (i := 1) (by omega) (wd_17 (T := T) (n := n) (s := s)) h.2.1.2.2.2.2.2
      obtain ⟨-, w4, -⟩ := wd_c (S := S) (i := 3) (by omega) (wd_17 (T := T) (n := n) (s := s)) h.2.1.2.2.2.2.2
      have go : ∀ (r : pR) (B' : Nat → List Int → aS) (S1 : z_St) (g : Nat), 4 * m + 5 ≤ g → RC T n q r S1 → frD q S S1 → (∀ s' c', r = .inl (s', c') → s < s' ∧ s' ≤ n ∧ PC q (B' s' c') S1) → ∃ S', z_R22 (d + 97) g 92 0 [some (.ref 22), some (.int (iI (n : Int))), none, some (.int (iI (i : Int)))] [] S1 = some (.inl (some (.int (S'.1 22 2))), S') ∧ QC T n q (qB r (fun s' c' => pM T n m s' c' (B' s' c'))) S' ∧ frD q S S' := by
        intro r B' S1 g hg hr hf1 hi1
        obtain ⟨g, rfl⟩ : ∃ f, g = f + 3 := ⟨g - 3, by omega⟩
        rw [zq_22_92, iI_n 1, iI_add, show (i : Int) + ((1 : Nat) : Int) = ((i + 1 : Nat) : Int) by omega]
        cases r with
        | inl x =>
          obtain ⟨s', c'⟩ := x
          obtain ⟨j1, j2, j3⟩ := hi1 s' c' rfl
          obtain ⟨S', t1, t2, t3⟩ := ih (i + 1) (g + 2) s' c' (B' s' c') none S1 (by omega) (by omega) j2 hr.2.1 hr.2.2 j3 (by omega)
          exact ⟨S', t1, t2, hf1.tr t3⟩
        | inr e =>
          exact ⟨S1, stop (i + 1) g none S1 (by omega) hr.2.2.2.2.2.2.1, hr, hf1⟩
      rw [if_neg k0, zq_22_32, if_neg (by rw [iI_le (by omega) (by omega) (by omega) (by omega)]; omega), if_neg (by rw [h.2.1.2.2.1, iI_0, iI_eq (by omega) (by omega) (by omega) (by omega)]; exact k0), w1, cond_false, w2, cond_true, w3]
      by_cases e1 : wd T n s = 1
      · obtain ⟨S1, b1, b2, b3, b4⟩ := c_book hq hn hP hlt hc h (d + 92)
        rw [← pB_if] at b2
        rw [if_pos e1, if_pos (by omega), b1, clv_v]
        refine go (pBo T n B s c) (fun _ _ => bkB T n B s) S1 (fu + 3) (by omega) b2 b3 (fun s' c' hr => ?_)
        obtain ⟨a1, a2, a3, a4, a5, a6, y, hy⟩ := pBo_i hr
        exact ⟨a3, a4, b4 y a1 hy⟩
      · rw [if_neg e1, if_neg (by omega), zq_22_67, w1, cond_false, w4, cond_true, w3]
        by_cases e3 : wd T n s = 3
        · obtain ⟨S1, b1, b2, b3, b4⟩ := c_reader0 hq hn hT hP hlt hc h d
          rw [← pB_if] at b2
          rw [if_pos e3, if_pos (by omega), b1, clv_v]
          refine go (pRe T n B s c) (fun _ c' => rdB T n B s (c.length : Int) (c'.length : Int)) S1 (fu + 2) (by omega) b2 b3 (fun s' c' hr => ?_)
          obtain ⟨a1, a2, a3, a4, a5, a6, ⟨y, hy, hy2⟩, -⟩ := pRe_i hT hlt hr
          refine ⟨a2, a3, ?_⟩
          have := b4 y a1 hy
          rw [hy2] at this
          exact this
        · obtain ⟨S1, b1, b2, b3⟩ := c_bad hq hn (k := 1) (by omega) (show RC T n q (.inl (s, c)) S from ⟨hs, hc, h⟩) (d + 95)
          rw [if_neg e3, if_neg (by omega), zq_22_87, show nI 1 = iI 1 from rfl, b1, clv_v]
          exact go (.inr (1, s)) (fun _ _ => B) S1 (fu + 1) (by omega) b2 b3.D (fun s' c' hr => by cases hr)
def B00 : aS := fun _ _ => 0
theorem c_parse (hq : q = 2 ∨ q = 12) (hn : n ≤ 700) {S : z_St} (hT : txC T n S) (d : Nat) : ∃ S', z_ew (d + 98) 22 [.ref 22, .int (iI (n : Int)), .ref q] S = some (.inl (some (.int (S'.1 22 2))), S') ∧ QC T n q (pM T n 700 (rn tkB T n 0) [] B00) S' ∧ frD q S S' := by
  have hqb : Nat.blt q 2000 = true ∧ nI q = iI (q : Int) := by
    rcases hq with rfl | rfl <;> decide +kernel
  obtain ⟨u1, u2⟩ := q_i hq
  have hO3 := (z_at_q hq).1
  obtain ⟨S1, hS1⟩ : ∃ S1 : z_St, S1 = (z_w1 (z_w1 (z_w1 (z_w1 S.1 22 1 (iI (q : Int))) q 0 (nI 0)) q 3 (nI 0)) q 11 (nI 0), S.2) := ⟨_, rfl⟩
  have e35 : z_ew (d + 97) 35 [.ref q] (z_w1 S.1 22 1 (iI (q : Int)), S.2) = some (.inl none, S1) := by
    rw [zx_35, hO3, show (true && Nat.beq 0 0 && z_nb 0 (nI 0)) = true from rfl, cond_true, cond_true, cond_true, hS1]
  obtain ⟨S2, hS2⟩ : ∃ S2 : z_St, S2 = (z_w1 (z_w1 (z_w1 (z_w1 S1.1 22 2 (nI 0)) 22 3 (-nI 1)) 23 1 (iI (n : Int))) 23 2 (nI 0), S1.2) := ⟨_, rfl⟩
  have f2 : ∀ a i, a ≠ 22 → a ≠ 23 → (a ≠ q ∨ (i ≠ 0 ∧ i ≠ 3 ∧ i ≠ 11)) → S2.1 a i = S.1 a i := by
    intro a i a1 a2 a3
    rw [hS2]
    dsimp only
    rw [z_w1_r, if_neg (by omega), z_w1_r, if_neg (by omega), z_w1_r, if_neg (by omega), z_w1_r, if_neg (by omega), hS1]
    dsimp only
    rw [z_w1_r, if_neg (by omega), z_w1_r, if_neg (by omega), z_w1_r, if_neg (by omega), z_w1_r, if_neg (by omega)]
  have hT2 : txC T n S2 := hT.f (fun i => f2 1 i (by omega) (by omega) (by omega))
  obtain ⟨S3, b1, b2, b3, b4⟩ := c_adv (S := S2) (q := 0) hn hT2 (by rw [hS2]; simp [z_w1_r]) (by rw [hS2]; simp [z_w1_r]; rfl) (by omega) (d + 93)
  have e59 : z_ew (d + 97) 59 [.ref 23, .int (iI (n : Int))] (z_w1 (z_w1 S1.1 22 2 (nI 0)) 22 3 (-nI 1), S1.2) = some (.inl none, S3) := by
    rw [zx_59, show nI 700 = iI 700 from rfl, zy_188 (d + 95) (n : Int) 700 _ (by omega) (by omega) (by omega) (by omega), cli_i, show mnI (n : Int) 700 = (n : Int) by unfold mnI; split <;> omega, ← hS2, b1, clv_v]
  have r3 := rn_r (P := tkB) (T := T) (n := n) (q := 0) (by omega)
  have hO : OKc T n q (rn tkB T n 0) [] S3 := by
    refine ⟨hT2.f (fun i => b3 1 i (by omega)), b2, ?_, ⟨?_, ?_⟩, ?_, fun i hi => absurd hi (Nat.not_lt_zero i)⟩
    · rw [b3 22 1 (by omega), hS2, hS1]
      have : ∀ a, a = q → a ≠ 22 ∧ a ≠ 23 := fun a ha => by omega
      simp [z_w1_r, (this q rfl).1, (this q rfl).2, Ne.symm (this q rfl).1]
    · rw [b3 22 2 (by omega), hS2]
      simp [z_w1_r]
      rfl
    · rw [b3 22 3 (by omega), hS2]
      simp [z_w1_r]
      rfl
    · rw [b3 q 11 (by omega), hS2, hS1]
      dsimp only
      rw [z_w1_r, if_neg (by omega), z_w1_r, if_neg (by omega), z_w1_r, if_neg (by omega), z_w1_r, if_neg (by omega), z_w1_r, if_pos ⟨rfl, rfl⟩]
      rfl
  have hP : PC q B00 S3 := by
    refine ⟨by show (0 : Int) ≤ 0 ∧ (0 : Int) ≤ 10; omega, by show (0 : Int) ≤ 0 ∧ (0 : Int) ≤ 8; omega, ?_, ?_, fun x j _ _ hj => ?_⟩
    · rw [b3 q 0 (by omega), hS2, hS1]
      dsimp only
      rw [z_w1_r, if_neg (by omega), z_w1_r, if_neg (by omega), z_w1_r, if_neg (by omega), z_w1_r, if_neg (by omega), z_w1_r, if_neg (by omega), z_w1_r, if_neg (by omega), z_w1_r, if_pos ⟨rfl, rfl⟩]
      rfl
    · rw [b3 q 3 (by omega), hS2, hS1]
      dsimp only
      rw [z_w1_r, if_neg (by omega), z_w1_r, if_neg (by omega), z_w1_r, if_neg (by omega), z_w1_r, if_neg (by omega), z_w1_r, if_neg (by omega), z_w1_r, if_pos ⟨rfl, rfl⟩]
      rfl
    · exfalso
      have : pD B00 x = 0 := by
        unfold pD
        split <;> rfl
      omega
  obtain ⟨S4, t1, t2, t3⟩ := c_main hq hn (fun k hk => (hT k hk).1) d 700 0 999999 (rn tkB T n 0) [] B00 (some (.ref q)) S3 (by omega) (by omega) r3.2 (Nat.zero_le _) hO hP (by omega)
  refine ⟨S4, ?_, t2, ⟨t3.1.trans (b4.trans (by rw [hS2]; dsimp only; rw [hS1])), fun a i a1 a2 a3 => (t3.2 a i a1 a2 a3).trans ((b3 a i a2).trans (f2 a i a1 a2 (by omega)))⟩⟩
  rw [zx_22, hqb.1, cond_true, hqb.2, u1, cond_false, u2, hO3, cond_true, e35, clv_v, e59, clv_v, iI_n 0]
  exact t1
theorem m_main (hn : n ≤ 700) (hT : ∀ k, k < n → 0 ≤ T k ∧ T k ≤ 255) (d : Nat) : ∀ (m fu s : Nat) (c : List Int) (B : aS) (d1 : Option Value) (S : z_St), n - s ≤ m → s ≤ n → c.length ≤ s → OKm T n s c S → PM B S → 6 * m + 8 ≤ fu → ∃ S' g, z_R137 (d + 67) fu 67 0 [some (.ref 70), d1] [] S = z_R137 (d + 67) g 128 0 [some (.ref 70), none] [] S' ∧ fu ≤ g + (6 * m + 8) ∧ QM T n (pM T n m s c B) S' ∧ frE S S' := by
  have frf : ∀ S, frE S S := fun S => (frM.rf S).E
  have stop : ∀ (fu s : Nat) (c : List Int) (d1 : Option Value) (S : z_St), n ≤ s → OKm T n s c S → z_R137 (d + 67) (fu + 1) 67 0 [some (.ref 70), d1] [] S = z_R137 (d + 67) fu 128 0 [some (.ref 70), none] [] S := by
    intro fu s c d1 S hs h
    have hk : kM T n s = 0 := by
      unfold kM
      rw [if_pos hs]
    rw [zq_137_67, if_pos (show S.1 70 24 = 0 from h.2.2.1), if_pos (by rw [h.2.1.2.1, hk]; rfl)]
  intro m
  induction m with
  | zero =>
    intro fu s c B d1 S hm hs hc h hP hf
    obtain ⟨fu, rfl⟩ : ∃ f, fu = f + 1 := ⟨fu - 1, by omega⟩
    exact ⟨S, fu, stop fu s c d1 S (by omega) h, by omega, ⟨⟨s, hs, h⟩, hP⟩, frf S⟩
  | succ m ih =>
    intro fu s c B d1 S hm hs hc h hP hf
    obtain ⟨fu, rfl⟩ : ∃ f, fu = f + 8 := ⟨fu - 8, by omega⟩
    rw [pM_s]
    by_cases k0 : kd T n s = 0
    · rw [if_pos k0]
      exact ⟨S, fu + 7, stop (fu + 7) s c d1 S (kd_0.mp k0) h, by omega, ⟨⟨s, hs, h⟩, hP⟩, frf S⟩
    · have hlt := kd_lt k0
      have hkm : ¬ S.1 70 20 = 0 := by
        obtain ⟨-, -, m3, -⟩ := kM_1 (T := T) (n := n) (s := s)
        have : kM T n s ≠ 0 := by
          unfold kM
          rw [if_neg (by omega)]
          repeat' split
          all_goals omega
        rw [h.2.1.2.1, iI_0, iI_eq (by omega) (by omega) (by omega) (by omega)]
        exact this
      have go : ∀ (r : pR) (B' : Nat → List Int → aS) (S1 : z_St) (g : Nat), 6 * m + 9 ≤ g → fu + 5 ≤ g → RM T n r S1 → frE S S1 → (∀ s' c', r = .inl (s', c') → PM (B' s' c') S1) → (∀ s' c', pB r (pSg T n 59) = .inl (s', c') → s < s' ∧ s' ≤ n ∧ ∃ s0, r = .inl (s0, c')) → (∀ s1 s2 c', B' s1 c' = B' s2 c') → ∃ S' g', z_R137 (d + 67) g 119 0 [some (.ref 70), none] [] S1 = z_R137 (d + 67) g' 128 0 [some (.ref 70), none] [] S' ∧ fu + 8 ≤ g' + (6 * (m + 1) + 8) ∧ QM T n (qB (pB r (pSg T n 59)) (fun s' c' => pM T n m s' c' (B' s' c'))) S' ∧ frE S S' := by
        intro r B' S1 g hg hfg hr hf1 hP1 hi1 hB
        obtain ⟨g, rfl⟩ : ∃ f, g = f + 2 := ⟨g - 2, by omega⟩
        obtain ⟨S2, a1, a2, a3⟩ := m_sg hn (sg := 59) (by decide) hr (d + 64)
        rw [zq_137_119, show nI 59 = iI 59 from rfl, a1, clv_v]
        cases hr2 : pB r (pSg T n 59) with
        | inl x =>
          obtain ⟨s', c'⟩ := x
          rw [hr2] at a2
          obtain ⟨j1, j2, s0, j3⟩ := hi1 s' c' hr2
          have hP2 := (hP1 s0 c' j3).m a3
          rw [hB s0 s' c'] at hP2
          obtain ⟨S', g', t1, t2, t3, t4⟩ := ih (g + 1) s' c' (B' s' c') none S2 (by omega) j2 a2.2.1 a2.2.2 hP2 (by omega)
          exact ⟨S', g', t1, by omega, t3, hf1.tr (a3.E.tr t4)⟩
        | inr e =>
          rw [hr2] at a2
          refine ⟨S2, g, ?_, by omega, a2, hf1.tr a3.E⟩
          rw [zq_137_67, if_neg (show ¬ S2.1 70 24 = 0 from Fm.ne a2)]
      rw [if_neg k0, zq_137_67, if_pos (show S.1 70 24 = 0 from h.2.2.1), if_neg hkm, show (1201 : Nat) = 1200 + 1 from rfl, m_isO hn hs h (by omega) (by omega) (d + 66), cli_i]
      by_cases e1 : wd T n s = 1
      · obtain ⟨S1, b1, b2, b3, b4⟩ := m_bookC hn hP hlt hc h (d + 63)
        rw [if_pos e1, decide_eq_true e1, if_neg (show ¬ bI true = 0 by decide +kernel), b1, clv_v]
        refine go (if B 2 0 = 10 then .inr (2, s) else rBk T n s c) (fun _ _ => bkB T n B s) S1 (fu + 7) (by omega) (by omega) b2 b3 (fun s' c' hr => ?_) (fun s' c' hr => ?_) (fun _ _ _ => rfl)
        · by_cases e10 : B 2 0 = 10
          · rw [if_pos e10] at hr
            cases hr
          · rw [if_neg e10] at hr
            exact b4 _ e10 hr
        · obtain ⟨a1, a2, a3, a4, a5, a6, y, hy⟩ := pBo_i (B := B) hr
          refine ⟨a3, a4, ?_⟩
          obtain ⟨s1, c1, g1, g2⟩ := pB_inl hr
          exact ⟨s1, by rw [g1, (pSg_i (by omega) g2).2.1]⟩
      · rw [if_neg e1, decide_eq_false e1, if_pos (show bI false = 0 by rfl), zq_137_97, show (1203 : Nat) = 1200 + 3 from rfl, m_isO hn hs h (by omega) (by omega) (d + 66), cli_i]
        by_cases e3 : wd T n s = 3
        · obtain ⟨S1, b1, b2, b3, b4⟩ := m_readerC hn hT hP hlt hc h d
          rw [if_pos e3, decide_eq_true e3, if_neg (show ¬ bI true = 0 by decide +kernel), b1, clv_v]
          refine go (if B 3 0 = 8 then .inr (2, s) else rRd T n s c) (fun _ c' => rdB T n B s (c.length : Int) (c'.length : Int)) S1 (fu + 6) (by omega) (by omega) b2 b3 (fun s' c' hr => ?_) (fun s' c' hr => ?_) (fun _ _ _ => rfl)
          · by_cases e8 : B 3 0 = 8
            · rw [if_pos e8] at hr
              cases hr
            · rw [if_neg e8] at hr
              exact b4 _ e8 hr
          · obtain ⟨a1, a2, a3, -⟩ := pRe_i (B := B) hT hlt hr
            refine ⟨a2, a3, ?_⟩
            obtain ⟨s1, c1, g1, g2⟩ := pB_inl hr
            exact ⟨s1, by rw [g1, (pSg_i (by omega) g2).2.1]⟩
        · obtain ⟨S1, b1, b2, b3⟩ := mp_wr (k := 1) (by omega) hs h (d + 66)
          rw [if_neg e3, decide_eq_false e3, if_pos (show bI false = 0 by rfl), zq_137_114, show nI 1 = iI 1 from rfl, b1, clv_v]
          exact go (.inr (1, s)) (fun _ _ => B) S1 (fu + 5) (by omega) (by omega) b2 b3.E (fun s' c' hr => by cases hr) (fun s' c' hr => by cases hr) (fun _ _ _ => rfl)
end MAIN
