/-! room -/
theorem PB_0 : PB B00 [] := by
  refine ⟨by show (0 : Int) ≤ 0 ∧ (0 : Int) ≤ 10; omega, by show (0 : Int) ≤ 0 ∧ (0 : Int) ≤ 8; omega, fun b hb => ?_, fun r hr => ?_, fun v hv => absurd hv List.not_mem_nil⟩
  · have hb : (b : Int) < 0 := hb
    omega
  · have hr : (r : Int) < 0 := hr
    omega
section ROOM
variable {A : aS} {S : z_St} {n : Nat}
theorem m_0z (h : MI A S) (hw : wf A) : MI (aU A 0 0 0) (z_w1 S.1 70 17 (nI 0), S.2) := h.wg (x := 0) (j := 0) (v := 0) hw (by decide) (by decide) (by decide) (fun y hy k hk => by
  rw [mD_0] at hk
  by_cases q : y = 10
  · rw [if_pos q] at hk
    exact absurd hk (Nat.not_lt_zero k)
  · rw [if_neg q] at hk
    exact Or.inl hk)
theorem m_room (h : MI A S) (hw : wf A) (hn : (n : Int) ≤ A 0 0) (d : Nat) : (∀ c B, pM (A 10) n 700 (rn tkB (A 10) n 0) [] B00 = .inl (c, B) → PB B c ∧ c.length ≤ n ∧ ∃ S3, z_ew (d + 68) 137 [.ref 70, .int (iI (n : Int))] S = some (.inl (some (.int (iI 0))), S3) ∧ fM S S3 ∧ MI (rmA A B c) S3 ∧ S3.1 70 1 = iI 0) ∧ (∀ k pl, pM (A 10) n 700 (rn tkB (A 10) n 0) [] B00 = .inr (k, pl) → ∃ S3, z_ew (d + 68) 137 [.ref 70, .int (iI (n : Int))] S = some (.inl (some (.int (iI k))), S3) ∧ fM S S3 ∧ MI (rmF A pl) S3 ∧ S3.1 70 1 = iI 0) := by
  have t0 := hw.t
  have hT : ∀ k, k < n → 0 ≤ A 10 k ∧ A 10 k ≤ 255 := fun k hk => hw.P.2.1 k (by omega)
  obtain ⟨S1, hS1⟩ : ∃ S1 : z_St, S1 = (z_w1 (z_w1 (z_w1 (z_w1 (z_w1 (z_w1 (z_w1 (z_w1 (z_w1 S.1 70 1 (nI 0)) 70 17 (nI 0)) 70 19 (iI (n : Int))) 70 18 (nI 0)) 70 24 (nI 0)) 70 26 (-nI 1)) 70 27 (nI 0)) 70 4 (nI 0)) 70 5 (nI 0), S.2) := ⟨_, rfl⟩
  have f1 : ∀ a i, (a ≠ 70 ∨ (i ≠ 1 ∧ i ≠ 17 ∧ i ≠ 19 ∧ i ≠ 18 ∧ i ≠ 24 ∧ i ≠ 26 ∧ i ≠ 27 ∧ i ≠ 4 ∧ i ≠ 5)) → S1.1 a i = S.1 a i := by
    intro a i hi
    rw [hS1]
    dsimp only
    rw [z_w1_r, if_neg (by omega), z_w1_r, if_neg (by omega), z_w1_r, if_neg (by omega), z_w1_r, if_neg (by omega), z_w1_r, if_neg (by omega), z_w1_r, if_neg (by omega), z_w1_r, if_neg (by omega), z_w1_r, if_neg (by omega), z_w1_r, if_neg (by omega)]
  have e1 : S1.1 70 1 = iI 0 := by rw [hS1]; simp [z_w1_r]; rfl
  have e17 : S1.1 70 17 = iI 0 := by rw [hS1]; simp [z_w1_r]; rfl
  have e19 : S1.1 70 19 = iI (n : Int) := by rw [hS1]; simp [z_w1_r]
  have e18 : S1.1 70 18 = iI ((0 : Nat) : Int) := by rw [hS1]; simp [z_w1_r]; rfl
  have e24 : S1.1 70 24 = iI 0 := by rw [hS1]; simp [z_w1_r]; rfl
  have e26 : S1.1 70 26 = iI (-1) := by rw [hS1]; simp [z_w1_r]; rfl
  have e27 : S1.1 70 27 = iI 0 := by rw [hS1]; simp [z_w1_r]; rfl
  have e4 : S1.1 70 4 = iI 0 := by rw [hS1]; simp [z_w1_r]; rfl
  have e5 : S1.1 70 5 = iI 0 := by rw [hS1]; simp [z_w1_r]; rfl
  have hx1 : txM (A 10) n S1 := ⟨e19, fun k hk => ⟨hT k hk, by rw [f1 82 k (by omega)]; exact m_10 h (by omega)⟩⟩
  obtain ⟨S2, b1, b2, b3⟩ := m_step (S := S1) (q := 0) (by omega) hx1 e18 (by omega) (d + 65)
  have r0 := rn_r (P := tkB) (T := A 10) (n := n) (q := 0) (by omega)
  have hO : OKm (A 10) n (rn tkB (A 10) n 0) [] S2 := ⟨hx1.w b3, b2, (b3.1 70 24 (by omega)).trans e24, (b3.1 70 27 (by omega)).trans e27, fun i hi => absurd hi (Nat.not_lt_zero i)⟩
  have hP : PM B00 S2 := by
    refine ⟨by show (0 : Int) ≤ 0 ∧ (0 : Int) ≤ 10; omega, by show (0 : Int) ≤ 0 ∧ (0 : Int) ≤ 8; omega, (b3.1 70 4 (by omega)).trans e4, (b3.1 70 5 (by omega)).trans e5, fun x j _ _ hj => ?_⟩
    exfalso
    have : pD B00 x = 0 := by
      unfold pD
      split <;> rfl
    omega
  obtain ⟨S3, g, c1, c2, c3, c4⟩ := m_main (T := A 10) (n := n) (by omega) hT d 700 999998 (rn tkB (A 10) n 0) [] B00 (some (.int (iI (n : Int)))) S2 (by omega) r0.2 (Nat.zero_le _) hO hP (by omega)
  obtain ⟨g, rfl⟩ : ∃ m, g = m + 2 := ⟨g - 2, by omega⟩
  have st : z_ew (d + 68) 137 [.ref 70, .int (iI (n : Int))] S = z_R137 (d + 67) (g + 2) 128 0 [some (.ref 70), none] [] S3 := by
    rw [zx_137, if_neg (by rw [iI_0, iI_lt (by omega) (by omega) (by omega) (by omega)]; omega), if_pos (by rw [m_0 h, iI_le (by omega) (by omega) (by omega) (by omega)]; omega), zq_137_23, ← hS1, b1, clv_v]
    exact c1
  have f3 : ∀ a i, (a ≠ 70 ∨ (i < 4 ∨ (6 ≤ i ∧ i < 18) ∨ i = 19 ∨ i = 26 ∨ 28 ≤ i)) → (a ≠ 79 ∨ i < 700) → (a = 72 ∨ a = 73 → i < 10) → (74 ≤ a ∧ a ≤ 78 ∨ a = 81 → i < 8) → S3.1 a i = S1.1 a i := by
    intro a i a1 a2 a3 a4
    rw [c4.2 a i a1 a2 a3 a4, b3.1 a i (by omega)]
  have s3 : S3.2 = S.2 := by rw [c4.1, b3.2, hS1]
  refine ⟨fun c B hr => ?_, fun k pl hr => ?_⟩
  · rw [hr] at c3
    obtain ⟨⟨s, hs, hO3⟩, hP3⟩ := c3
    obtain ⟨hB, hl⟩ := pM_b hT 700 (rn tkB (A 10) n 0) [] B00 c B r0.2 (Nat.zero_le _) PB_0 hr
    dsimp only at hO3 hP3
    obtain ⟨S4, i1, i2, i3, i4⟩ := m_take (A := A) (by omega) hO3 hP3 hB (by rw [f3 70 17 (by omega) (by omega) (by omega) (by omega)]; exact e17) (by rw [f3 70 26 (by omega) (by omega) (by omega) (by omega)]; exact e26) (fun j hj => by rw [f3 80 j (by omega) (by omega) (by omega) (by omega), f1 80 j (by omega)]; exact m_39 h hj) (d + 66)
    refine ⟨hB, hl, S4, ?_, fun a ha => ⟨?_, by rw [i3, s3]⟩, i2, ?_⟩
    · rw [st, zq_137_128, if_pos (show S3.1 70 24 = 0 from hO3.2.2.1), zq_137_158, i1, clv_v]
      rfl
    · funext i
      rw [i4 a i (by omega), f3 a i (by omega) (by omega) (by omega) (by omega), f1 a i (by omega)]
    · rw [i4 70 1 (by omega), f3 70 1 (by omega) (by omega) (by omega) (by omega)]
      exact e1
  · rw [hr] at c3
    have hF : Fm (A 10) n k pl S3 := c3
    have w0 := wf_0 hw
    have hpl : pl ≤ n := hF.2.2.2.2.1
    have q1 := (m_0z h hw).w (x := 1) (j := 0) (v := (pl : Int)) w0 (by decide) (by decide) (by decide) (dD_u (by decide))
    have w1 := wf_1 (v := (pl : Int)) w0 (by omega)
    have q2 := q1.w (x := 39) (j := 0) (v := A 39 0 + 1) w1 (by decide) (by decide) (by decide) (dD_u (by decide))
    have z80 : S3.1 80 0 + nI 1 = iI (A 39 0 + 1) := by
      rw [f3 80 0 (by omega) (by omega) (by omega) (by omega), f1 80 0 (by omega), m_39 h (by omega), iI_n 1, iI_add]
      rfl
    refine ⟨(z_w1 (z_w1 S3.1 70 26 (S3.1 70 25)) 80 0 (S3.1 80 0 + nI 1), S3.2), ?_, fun a ha => ⟨?_, s3 ▸ rfl⟩, ?_, ?_⟩
    · rw [st, zq_137_128, if_neg hF.ne, hF.2.2.2.2.2.1]
    · funext i
      dsimp only
      rw [z_w1_r, if_neg (by omega), z_w1_r, if_neg (by omega), f3 a i (by omega) (by omega) (by omega) (by omega), f1 a i (by omega)]
    · rw [z80, hF.2.2.2.2.2.2]
      refine MI.fG q2 (wf_rmF hw (by omega)) (fun a i a1 a2 a3 a4 => ?_)
      have e26' : mi 1 = 70 ∧ mx 1 0 = 26 ∧ mi 39 = 80 ∧ mx 39 0 = 0 := ⟨rfl, rfl, rfl, rfl⟩
      rw [e26'.1, e26'.2.1, e26'.2.2.1, e26'.2.2.2]
      dsimp only
      rw [z_w1_r, z_w1_r, z_w1_r, z_w1_r, z_w1_r]
      by_cases c80 : a = 80 ∧ i = 0
      · rw [if_pos c80, if_pos c80]
      · rw [if_neg c80, if_neg c80]
        by_cases c26 : a = 70 ∧ i = 26
        · rw [if_pos c26, if_pos c26]
        · rw [if_neg c26, if_neg c26]
          by_cases c17 : a = 70 ∧ i = 17
          · rw [if_pos c17, c17.1, c17.2, f3 70 17 (by omega) (by omega) (by omega) (by omega), e17]
            rfl
          · rw [if_neg c17, f3 a i (by omega) a2 a3 a4, f1 a i (by omega)]
    · dsimp only
      rw [z_w1_r, if_neg (by omega), z_w1_r, if_neg (by omega), f3 70 1 (by omega) (by omega) (by omega) (by omega)]
      exact e1
theorem o_room (a : Int32) : OpW 191 137 [.int a] := by
  intro S ⟨p, A, hC, hM, hw⟩
  obtain ⟨v, h1, h2, rfl⟩ := iI_of a
  have t0 := hw.t
  by_cases q : 0 ≤ v ∧ v ≤ A 0 0
  · obtain ⟨n, rfl⟩ : ∃ n : Nat, v = (n : Int) := ⟨v.toNat, by omega⟩
    obtain ⟨r1, r2⟩ := c_room hC hw q.2 900
    cases hr : pM (A 10) n 700 (rn tkB (A 10) n 0) [] B00 with
    | inl x =>
      obtain ⟨c, B⟩ := x
      obtain ⟨S1, e1, e2, e3⟩ := r1 c B hr
      obtain ⟨hB, hl, -⟩ := (m_room hM hw q.2 932).1 c B hr
      exact opW_mk (cm := 75) (o := some 0) (fun _ _ e => w_191 e) (fun S2 e => by rw [e1] at e; cases e) hw hM e1 e2 e3 (wf_rm hB (by omega)) (fun S2 h => ((m_room h hw q.2 932).1 c B hr).2.2)
    | inr y =>
      obtain ⟨k, pl⟩ := y
      obtain ⟨⟨k1, k2, k3⟩, S1, e1, e2, e3⟩ := r2 k pl hr
      exact opW_mk (cm := 75) (o := some k) (fun _ _ e => w_191 e) (fun S2 e => by rw [e1] at e; cases e) hw hM e1 e2 e3 (wf_rmF hw (by omega)) (fun S2 h => (m_room h hw q.2 932).2 k pl hr)
  · have ec : z_ew 999 75 [.ref 0, .int (iI v)] S = some (.inr 1, S) := by
      rw [zx_75 998]
      by_cases q0 : v < 0
      · rw [if_pos (by rw [iI_0, iI_lt (by omega) (by omega) (by omega) (by omega)]; omega), zq_75_12]
      · rw [if_neg (by rw [iI_0, iI_lt (by omega) (by omega) (by omega) (by omega)]; omega), if_neg (by rw [c_0 hC, iI_le (by omega) (by omega) (by omega) (by omega)]; omega), zq_75_12]
    have em : z_ew 1000 137 [.ref 70, .int (iI v)] S = some (.inl (some (.int (nI 0))), (z_w1 (z_w1 S.1 70 1 (nI 0)) 70 1 (nI 1), S.2)) := by
      have go : z_R137 999 999999 17 0 [some (.ref 70), some (.int (iI v))] [] (z_w1 S.1 70 1 (nI 0), S.2) = some (.inl (some (.int (nI 0))), (z_w1 (z_w1 S.1 70 1 (nI 0)) 70 1 (nI 1), S.2)) := by
        rw [zq_137_17, zx_111 998, cli_i]
      rw [zx_137 999]
      by_cases q0 : v < 0
      · rw [if_pos (by rw [iI_0, iI_lt (by omega) (by omega) (by omega) (by omega)]; omega)]
        exact go
      · rw [if_neg (by rw [iI_0, iI_lt (by omega) (by omega) (by omega) (by omega)]; omega), if_neg (by rw [m_0 hM, iI_le (by omega) (by omega) (by omega) (by omega)]; omega)]
        exact go
    refine ⟨1, nI 0, S, _, w_191x ec, em, ?_, fun e => absurd e (by decide), p, A, hC.m ((fM_w1 (a := 70) (i := 1) (v := nI 0) (by omega) (by omega)).tr (fM_w1 (by omega) (by omega))), (hM.code hw).code hw, hw⟩
    dsimp only
    rw [z_w1_r, if_pos ⟨rfl, rfl⟩]
    rfl
end ROOM
