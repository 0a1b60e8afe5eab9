/-! waiting: the call -/
def aW (A : aS) (w : Nat) (o : Nat → Int) : aS := fun y k => if y = 9 then (w : Int) else if y = 40 then o k else A y k
theorem aW_o {A : aS} {w : Nat} {o : Nat → Int} {y k : Nat} (h1 : y ≠ 9) (h2 : y ≠ 40) : aW A w o y k = A y k := by
  unfold aW
  rw [if_neg h1, if_neg h2]
theorem dD_W {A : aS} {w : Nat} {o : Nat → Int} (y : Nat) : dD (aW A w o) y = if y = 40 then w else dD A y := by
  by_cases h : y = 40
  · subst h
    rfl
  · rw [if_neg h]
    unfold dD
    simp only [aW_o (show (0 : Nat) ≠ 9 by decide) (by decide), aW_o (show (2 : Nat) ≠ 9 by decide) (by decide), aW_o (show (3 : Nat) ≠ 9 by decide) (by decide), aW_o (show (67 : Nat) ≠ 9 by decide) (by decide), aW_o (show (4 : Nat) ≠ 9 by decide) (by decide), aW_o (show (6 : Nat) ≠ 9 by decide) (by decide), aW_o (show (7 : Nat) ≠ 9 by decide) (by decide), aW_o (show (8 : Nat) ≠ 9 by decide) (by decide), aW_o (show (41 : Nat) ≠ 9 by decide) (by decide), aW_o (show (43 : Nat) ≠ 9 by decide) (by decide), aW_o (show (44 : Nat) ≠ 9 by decide) (by decide), if_neg h]
theorem mD_W {A : aS} {w : Nat} {o : Nat → Int} (y : Nat) : mD (aW A w o) y = if y = 40 then w else mD A y := by
  unfold mD
  rw [dD_W]
  by_cases h : y = 40
  · subst h
    rfl
  · rw [if_neg h, if_neg h]
theorem wf_W {A : aS} {w : Nat} {o : Nat → Int} (h : wf A) (h7 : w ≤ 7) (ho : ∀ k, k < w → 0 ≤ o k ∧ o k < 7) : wf (aW A w o) := by
  obtain ⟨⟨a1, a2, a3, a4, a5, a6, a7, a8, a9, a10, a11, a12⟩, g2, g3⟩ := h
  have hP : PW (aW A w o) := ⟨a1, a2, a3, a4, a5, a6, a7, a8, a9, ⟨by show (0 : Int) ≤ w; omega, by show (w : Int) ≤ 7; omega⟩, fun i hi => by
    have hi : (i : Int) < (w : Int) := hi
    exact ho i (by omega), a12⟩
  exact ⟨hP, g2, g3⟩
theorem ci_W : ∀ p, (p = 2 ∨ p = 12) → ∀ y, y < 65 → (ci p y ≠ 64 ∨ y = 9) ∧ (ci p y ≠ 65 ∨ y = 40) ∧ ci p y ≠ 66 := by
  intro p hp
  rcases hp with rfl | rfl <;> decide +kernel
theorem mi_W : ∀ y, y < 67 → mn y ≠ 0 → (mi y ≠ 110 ∨ y = 40) ∧ mi y ≠ 111 ∧ (mi y = 70 → mx y 0 ≠ 64 ∧ mx y 0 ≠ 63 ∧ mx y 0 ≠ 1) := by decide +kernel
theorem o_waiting : ∀ S, AI S → ∃ (y : Int32) (S1 S2 : z_St), z_ew 1000 93 [.ref 0] S = some (.inl (some (.int y)), S1) ∧ z_ew 1000 175 [.ref 70] S1 = some (.inl (some (.int y)), S2) ∧ AI S2 := by
  intro S ⟨p, A, hC, hM, hw⟩
  have h77 : 0 ≤ A 7 0 ∧ A 7 0 ≤ 7 := hw.L.2.2.2.1
  obtain ⟨w, hn⟩ : ∃ n : Nat, A 7 0 = n := ⟨(A 7 0).toNat, by omega⟩
  have hHR : ∀ i : Nat, (i : Int) < A 7 0 → (1 ≤ A 36 i ∧ A 36 i ≤ 99) ∧ 0 ≤ A 37 i ∧ A 37 i ≤ 999 := hw.L.2.2.2.2.2.2.2.2.2.2.2.2.1
  have hR : ∀ i, i < w → 0 ≤ A 37 i ∧ A 37 i ≤ 999 := fun i hi => (hHR i (by omega)).2
  have hH : ∀ i, i < w → 1 ≤ A 36 i ∧ A 36 i ≤ 99 := fun i hi => (hHR i (by omega)).1
  obtain ⟨S0, hS0⟩ : ∃ S0 : z_St, S0 = (z_w1 (z_w1 S.1 64 3 (nI 1000000)) 64 1 (S.1 24 12), S.2) := ⟨_, rfl⟩
  have f0 : ∀ a i, (a ≠ 64 ∨ i ≠ 3 ∧ i ≠ 1) → S0.1 a i = S.1 a i := by
    intro a i h
    rw [hS0]
    dsimp only
    rw [z_w1_r, if_neg (by omega), z_w1_r, if_neg (by omega)]
  have f1 : S0.1 64 1 = iI (w : Int) := by
    rw [hS0]
    dsimp only
    rw [z_w1_r, if_pos ⟨rfl, rfl⟩, c_7 hC, hn]
  have f3 : S0.1 64 3 = iI 1000000 := by
    rw [hS0]
    dsimp only
    rw [z_w1_r, if_neg (by omega), z_w1_r, if_pos ⟨rfl, rfl⟩]
    rfl
  have hc0 : cW S0 S0 (1000000, fun k => (S0.1 65 k).toInt, fun k => (S0.1 66 k).toInt) := ⟨f3, fun k _ => (fb_asI _).symm, fun k _ => (fb_asI _).symm, fun _ _ _ _ _ => rfl, rfl, by show (-1 : Int) ≤ 1000000; decide, by show (1000000 : Int) ≤ 1000000; decide⟩
  obtain ⟨S1, e1, hc1⟩ := c_pl (w := w) (H := A 36) (R := A 37) (S0 := S0) (by omega) hR hH (by rw [f0 24 12 (by decide), c_7 hC, hn]) f1 (fun i hi => by rw [f0 34 i (by omega)]; exact c_36 hC (by omega)) (fun i hi => by rw [f0 35 i (by omega)]; exact c_37 hC (by omega)) (996 - w) w 0 0 0 0 S0 _ (by omega) (by decide) (by decide) (by omega) (by decide) (by omega) hc0
  have fc : fC S S1 := by
    intro a ha
    refine ⟨?_, by rw [hc1.2.2.2.2.1, hS0]⟩
    funext i
    rw [hc1.2.2.2.1 a i (by omega) (by omega) (by omega), f0 a i (by omega)]
  have hM1 := hM.c hw fc
  obtain ⟨S3, hS3⟩ : ∃ S3 : z_St, S3 = (z_w1 (z_w1 (z_w1 S1.1 70 1 (nI 0)) 70 64 (-nI 1)) 70 63 (S1.1 70 57), S1.2) := ⟨_, rfl⟩
  have k0 : ∀ a i, (a ≠ 70 ∨ i ≠ 1 ∧ i ≠ 64 ∧ i ≠ 63) → S3.1 a i = S1.1 a i := by
    intro a i h
    rw [hS3]
    dsimp only
    rw [z_w1_r, if_neg (by omega), z_w1_r, if_neg (by omega), z_w1_r, if_neg (by omega)]
  have k63 : S3.1 70 63 = iI (w : Int) := by
    rw [hS3]
    dsimp only
    rw [z_w1_r, if_pos ⟨rfl, rfl⟩, m_7 hM1, hn]
  have k64 : S3.1 70 64 = iI (-1) := by
    rw [hS3]
    dsimp only
    rw [z_w1_r, if_neg (by omega), z_w1_r, if_pos ⟨rfl, rfl⟩]
    rfl
  have hm0 : mW S3 S3 (-1, fun k => (S3.1 110 k).toInt, fun k => (S3.1 111 k).toInt) := ⟨k64, fun k _ => (fb_asI _).symm, fun k _ => (fb_asI _).symm, fun _ _ _ _ _ => rfl, rfl, by show (-1 : Int) ≤ -1; decide, by show (-1 : Int) ≤ 1000000; decide⟩
  obtain ⟨S2, e2, hm2⟩ := m_pl (w := w) (H := A 36) (R := A 37) (S0 := S3) (by omega) hR hH (by rw [k0 70 57 (by decide), m_7 hM1, hn]) (fun i hi => by rw [k0 108 i (by omega)]; exact m_36 hM1 (by omega)) (fun i hi => by rw [k0 109 i (by omega)]; exact m_37 hM1 (by omega)) (997 - w) w 0 0 0 0 S3 _ (by omega) (by decide) (by decide) (by omega) (by decide) (by omega) hm0
  have hr := wR_main (w := w) (H := A 36) (R := A 37) (by omega) hR hH w 0 0 0 0 (1000000, fun k => (S0.1 65 k).toInt, fun k => (S0.1 66 k).toInt) (-1, fun k => (S3.1 110 k).toInt, fun k => (S3.1 111 k).toInt) (by omega) (by decide) (by omega) (by decide) (by omega) ⟨Or.inl ⟨rfl, rfl⟩, fun h => absurd rfl h, fun k hk => by omega⟩
  have hne := wm_hit (w := w) (H := A 36) (R := A 37) w 0 0 0 0 (-1, fun k => (S3.1 110 k).toInt, fun k => (S3.1 111 k).toInt) (by omega) (fb_ct_zero.2 (fun i _ => Nat.zero_testBit i)) (by decide)
  obtain ⟨C, hCe⟩ : ∃ C, C = wc w (A 36) (A 37) w 0 0 0 0 (1000000, fun k => (S0.1 65 k).toInt, fun k => (S0.1 66 k).toInt) := ⟨_, rfl⟩
  obtain ⟨M, hMe⟩ : ∃ M, M = wm w (A 36) (A 37) w 0 0 0 0 (-1, fun k => (S3.1 110 k).toInt, fun k => (S3.1 111 k).toInt) := ⟨_, rfl⟩
  rw [← hCe] at hc1 hr
  rw [← hMe] at hm2 hr hne
  obtain ⟨r1, r2, -⟩ := hr
  have r1 : M.1 = C.1 := by rcases r1 with q | q; exact absurd q.1 hne; exact q.1
  have r2 := r2 hne
  have hwf : wf (aW A w M.2.1) := wf_W hw (by omega) (fun k hk => (r2 k hk).2)
  have fm : fM S1 S2 := by
    intro a ha
    refine ⟨?_, by rw [hm2.2.2.2.2.1, hS3]⟩
    funext i
    rw [hm2.2.2.2.1 a i (by omega) (by omega) (by omega), k0 a i (by omega)]
  have hC1 : CI p (aW A w M.2.1) S1 := by
    obtain ⟨q1, q2, q3, q4, q5, q6⟩ := hC
    have h2 : S1.2 = S.2 := by rw [hc1.2.2.2.2.1, hS0]
    refine ⟨q1, ?_, ?_, ?_, ?_, ?_⟩
    · rw [hc1.2.2.2.1 0 3 (by decide) (by decide) (by decide), f0 0 3 (by decide)]; exact q2
    · rw [hc1.2.2.2.1 0 4 (by decide) (by decide) (by decide), f0 0 4 (by decide)]; exact q3
    · intro y hy j hj
      rw [dD_W] at hj
      obtain ⟨c1, c2, c3⟩ := ci_W p q1 y hy
      by_cases g9 : y = 9
      · subst g9
        have e : cx 9 j = 1 := by show 1 + 0 * j = _; omega
        rw [e]
        show S1.1 64 1 = iI (w : Int)
        rw [hc1.2.2.2.1 64 1 (by decide) (by decide) (by decide), f1]
      · by_cases g40 : y = 40
        · subst g40
          rw [if_pos rfl] at hj
          have e : cx 40 j = j := by show 0 + 1 * j = _; omega
          rw [e]
          show S1.1 65 j = iI (M.2.1 j)
          rw [hc1.2.1 j (by omega), (r2 j hj).1]
        · rw [if_neg g40] at hj
          rw [hc1.2.2.2.1 _ _ (by omega) c3 (by omega), f0 _ _ (by omega), aW_o g9 g40]
          exact q4 y hy j hj
    · intro b r hb hr q hq
      rw [h2]
      exact q5 b r hb hr q hq
    · intro ha b r hb hr q hq
      rw [h2]
      exact q6 ha b r hb hr q hq
  refine ⟨iI C.1, S1, S2, ?_, ?_, p, aW A w M.2.1, hC1.m fm, ⟨?_, Or.inl ?_⟩, hwf⟩
  · rw [zx_93 999, zx_71 998, ← hS0]
    have e1' : z_ew 998 72 [.ref 64, .ref 24, .int (nI 0), .int (nI 0), .int (nI 0), .int (nI 0)] S0 = some (.inl none, S1) := by
      rw [show 996 - w + w + 2 = 998 by omega] at e1
      exact e1
    rw [e1', clv_v, cli_i, hc1.1]
  · rw [zx_175 999, ← hS3]
    have e2' : z_ew 999 174 [.ref 70, .int (nI 0), .int (nI 0), .int (nI 0), .int (nI 0)] S3 = some (.inl none, S2) := by
      rw [show 997 - w + w + 2 = 999 by omega] at e2
      exact e2
    rw [e2', clv_v, hm2.1, r1]
  · intro y hy j hj
    rw [mD_W] at hj
    by_cases g40 : y = 40
    · subst g40
      rw [if_pos rfl] at hj
      have e : mx 40 j = j := by show 0 + 1 * j = _; omega
      rw [e]
      show S2.1 110 j = iI (M.2.1 j)
      exact hm2.2.1 j (by omega)
    · rw [if_neg g40] at hj
      have hm := mD_le hw y hy
      obtain ⟨c1, c2, c3⟩ := mi_W y hy (by omega)
      have g9 : y ≠ 9 := by
        rintro rfl
        exact absurd hj (Nat.not_lt_zero j)
      have t4 : mi y ≠ 70 ∨ mx y j ≠ 1 ∧ mx y j ≠ 64 ∧ mx y j ≠ 63 := by
        by_cases q : mi y = 70
        · obtain ⟨v1, v2, v3⟩ := c3 q
          have v4 := (m_tab2 y hy q).2.2.2
          have hj0 : j = 0 := by omega
          subst hj0
          exact Or.inr ⟨v3, v1, v2⟩
        · exact Or.inl q
      rw [hm2.2.2.2.1 _ _ (by omega) c2 (by omega), k0 _ _ t4, aW_o g9 g40]
      exact hM1.1 y hy j hj
  · show S2.1 70 63 = iI (w : Int)
    rw [hm2.2.2.2.1 70 63 (by decide) (by decide) (by decide), k63]
