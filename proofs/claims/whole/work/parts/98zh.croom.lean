/-! room: the class -/
theorem ci_q : ∀ p, (p = 2 ∨ p = 12) → ∀ x, x < 65 → ci p x ≠ 22 ∧ ci p x ≠ 23 ∧ (ci p x < 14 - p ∨ 14 - p + 9 < ci p x) := by
  intro p hp
  rcases hp with rfl | rfl <;> decide +kernel
theorem CI.fD {p : Nat} {A : aS} {S S' : z_St} (h : CI p A S) (hf : frD (14 - p) S S') : CI p A S' := by
  obtain ⟨h1, h2, h3, h4, h5, h6⟩ := h
  refine ⟨h1, by rw [hf.2 0 3 (by omega) (by omega) (by omega)]; exact h2, by rw [hf.2 0 4 (by omega) (by omega) (by omega)]; exact h3, h4.f (fun x hx j hj => ?_), ?_, ?_⟩
  · obtain ⟨a1, a2, a3⟩ := ci_q p h1 x hx
    exact hf.2 _ _ a1 a2 a3
  · intro b r hb hr q hq
    rw [hf.1]
    exact h5 b r hb hr q hq
  · intro ha b r hb hr q hq
    rw [hf.1]
    exact h6 ha b r hb hr q hq
theorem PC.f {q : Nat} {B : aS} {S S' : z_St} (h : PC q B S) (hf : ∀ a i, q ≤ a → a ≤ q + 9 → S'.1 a i = S.1 a i) : PC q B S' := by
  obtain ⟨p1, p2, p3, p4, p5⟩ := h
  exact ⟨p1, p2, (hf q 0 (by omega) (by omega)).trans p3, (hf q 3 (by omega) (by omega)).trans p4, fun x j x1 x2 hj => (hf (q + (x - 10)) j (by omega) (by omega)).trans (p5 x j x1 x2 hj)⟩
theorem fillL2 {r N : Nat} {v : Int64} (h2 : z_at r = 4) (h3 : z_ln r = N) (hN : N < 2000000) (d z : Nat) : ∀ (k i n : Nat) (S : z_St), i + k = N → k + 2 ≤ n → ∃ S', z_R189 d n 6 z [some (.ref r), some (.long v), none, some (.int (iI (i : Int))), some (.int (iI (N : Int)))] [] S = some (.inl none, S') ∧ (∀ j, i ≤ j → j < N → S'.2 r j = v) ∧ (∀ a j, (a ≠ r ∨ j < i ∨ N ≤ j) → S'.2 a j = S.2 a j) ∧ S'.1 = S.1 := by
  intro k
  induction k with
  | zero =>
    intro i n S hi hn
    obtain ⟨n, rfl⟩ : ∃ m, n = m + 2 := ⟨n - 2, by omega⟩
    refine ⟨S, ?_, fun j h1 h4 => by omega, fun _ _ _ => rfl, rfl⟩
    rw [zq_189_6, if_pos (by rw [iI_le (by omega) (by omega) (by omega) (by omega)]; omega), zq_189_22]
  | succ k ih =>
    intro i n S hi hn
    obtain ⟨n, rfl⟩ : ∃ m, n = m + 1 := ⟨n - 1, by omega⟩
    have e2 : (i : Int) + ((1 : Nat) : Int) = ((i + 1 : Nat) : Int) := by omega
    obtain ⟨S', g1, g2, g3, g4⟩ := ih (i + 1) n (S.1, z_w2 S.2 r i v) (by omega) (by omega)
    refine ⟨S', ?_, fun j h1 h4 => ?_, fun a j h1 => ?_, g4⟩
    · rw [zq_189_6, if_neg (by rw [iI_le (by omega) (by omega) (by omega) (by omega)]; omega)]
      refine (cond_t (by rw [h2, h3, ixN (by omega) (by omega)]; rfl)).trans ?_
      rw [tN (by omega), iI_n 1, iI_add, e2]
      exact g1
    · by_cases e : j = i
      · rw [g3 r j (by omega)]
        dsimp only
        rw [z_w2_r, if_pos ⟨rfl, e⟩]
      · exact g2 j (by omega) h4
    · rw [g3 a j (by omega)]
      dsimp only
      rw [z_w2_r, if_neg (by omega)]
theorem fill32 (d : Nat) (S : z_St) : ∃ S', z_ew (d + 1) 189 [.ref 32, .long (lN 0)] S = some (.inl none, S') ∧ (∀ j, j < 560 → S'.2 32 j = 0) ∧ (∀ a j, a ≠ 32 → S'.2 a j = S.2 a j) ∧ S'.1 = S.1 := by
  obtain ⟨S', g1, g2, g3, g4⟩ := fillL2 (r := 32) (N := 560) (v := lN 0) (by decide +kernel) (by decide +kernel) (by omega) d 0 560 0 999999 S (by omega) (by omega)
  refine ⟨S', ?_, fun j hj => (g2 j (by omega) hj).trans rfl, fun a j ha => g3 a j (Or.inl ha), g4⟩
  rw [zx_189, show Nat.beq 32 1100 = false from rfl, cond_false, show Nat.blt 0 (z_at 32) = true by decide +kernel, cond_true, show z_ln 32 = 560 by decide +kernel, iI_n 0, iI_n 560]
  exact g1
theorem c_clr (d : Nat) (S : z_St) : ∃ S', z_ew (d + 2) 5 [.ref 24] S = some (.inl none, S') ∧ (S'.1 24 0 = iI 0 ∧ S'.1 24 2 = iI 0 ∧ S'.1 24 10 = iI 0 ∧ S'.1 24 12 = iI 0) ∧ (∀ j, j < 10 → S'.1 26 j = iI 0) ∧ (∀ j, j < 8 → S'.1 27 j = iI 0) ∧ (∀ j, j < 80 → S'.1 28 j = iI 0) ∧ (∀ j, j < 80 → S'.1 29 j = iI 0) ∧ (∀ j, j < 80 → S'.1 30 j = iI 0) ∧ (∀ j, j < 80 → S'.1 31 j = iI (-1)) ∧ (∀ j, j < 60 → S'.1 36 j = iI 0) ∧ (∀ j, j < 560 → S'.2 32 j = 0) ∧ (∀ a i, a ≠ 24 → (a < 26 ∨ 31 < a) → a ≠ 36 → S'.1 a i = S.1 a i) ∧ (∀ a j, a ≠ 32 → S'.2 a j = S.2 a j) := by
  obtain ⟨S0, hS0⟩ : ∃ S0 : z_St, S0 = (z_w1 (z_w1 (z_w1 (z_w1 S.1 24 0 (nI 0)) 24 2 (nI 0)) 24 10 (nI 0)) 24 12 (nI 0), S.2) := ⟨_, rfl⟩
  obtain ⟨S1, a1, a2, a3, a4⟩ := fillE (r := 26) (N := 10) (v := nI 0) rfl (by decide +kernel) (by decide +kernel) (by omega) d S0
  obtain ⟨S2, b1, b2, b3, b4⟩ := fillE (r := 27) (N := 8) (v := nI 0) rfl (by decide +kernel) (by decide +kernel) (by omega) d S1
  obtain ⟨S3, c1, c2, c3, c4⟩ := fillE (r := 28) (N := 80) (v := nI 0) rfl (by decide +kernel) (by decide +kernel) (by omega) d S2
  obtain ⟨S4, d1, d2, d3, d4⟩ := fillE (r := 29) (N := 80) (v := nI 0) rfl (by decide +kernel) (by decide +kernel) (by omega) d S3
  obtain ⟨S5, e1, e2, e3, e4⟩ := fillE (r := 30) (N := 80) (v := nI 0) rfl (by decide +kernel) (by decide +kernel) (by omega) d S4
  obtain ⟨S6, f1, f2, f3, f4⟩ := fillE (r := 31) (N := 80) (v := -nI 1) rfl (by decide +kernel) (by decide +kernel) (by omega) d S5
  obtain ⟨S7, g1, g2, g3, g4⟩ := fill32 d S6
  obtain ⟨S8, h1, h2, h3, h4⟩ := fillE (r := 36) (N := 60) (v := nI 0) rfl (by decide +kernel) (by decide +kernel) (by omega) d S7
  have k24 : ∀ i, S8.1 24 i = S0.1 24 i := fun i => by
    rw [h3 24 i (by omega), g4, f3 24 i (by omega), e3 24 i (by omega), d3 24 i (by omega), c3 24 i (by omega), b3 24 i (by omega), a3 24 i (by omega)]
  refine ⟨S8, ?_, ⟨?_, ?_, ?_, ?_⟩, fun j hj => ?_, fun j hj => ?_, fun j hj => ?_, fun j hj => ?_, fun j hj => ?_, fun j hj => ?_, fun j hj => ?_, fun j hj => ?_, fun a i q1 q2 q3 => ?_, fun a j q1 => ?_⟩
  · rw [zx_5, ← hS0, a1, clv_v, b1, clv_v, c1, clv_v, d1, clv_v, e1, clv_v, f1, clv_v, g1, clv_v, h1, clv_v]
  · rw [k24, hS0]; simp [z_w1_r]; rfl
  · rw [k24, hS0]; simp [z_w1_r]; rfl
  · rw [k24, hS0]; simp [z_w1_r]; rfl
  · rw [k24, hS0]; simp [z_w1_r]; rfl
  · rw [h3 26 j (by omega), g4, f3 26 j (by omega), e3 26 j (by omega), d3 26 j (by omega), c3 26 j (by omega), b3 26 j (by omega), a2 j hj]; rfl
  · rw [h3 27 j (by omega), g4, f3 27 j (by omega), e3 27 j (by omega), d3 27 j (by omega), c3 27 j (by omega), b2 j hj]; rfl
  · rw [h3 28 j (by omega), g4, f3 28 j (by omega), e3 28 j (by omega), d3 28 j (by omega), c2 j hj]; rfl
  · rw [h3 29 j (by omega), g4, f3 29 j (by omega), e3 29 j (by omega), d2 j hj]; rfl
  · rw [h3 30 j (by omega), g4, f3 30 j (by omega), e2 j hj]; rfl
  · rw [h3 31 j (by omega), g4, f2 j hj]; rfl
  · rw [h2 j hj]; rfl
  · rw [h4]; exact g2 j hj
  · rw [h3 a i (by omega), g4, f3 a i (by omega), e3 a i (by omega), d3 a i (by omega), c3 a i (by omega), b3 a i (by omega), a3 a i (by omega), hS0]
    dsimp only
    rw [z_w1_r, if_neg (by omega), z_w1_r, if_neg (by omega), z_w1_r, if_neg (by omega), z_w1_r, if_neg (by omega)]
  · rw [h4, g3 a j q1, f4, e4, d4, c4, b4, a4, hS0]
section ROOMC
variable {p n : Nat} {A : aS} {S : z_St}
theorem c_txt (h : CI p A S) (hw : wf A) (hn : (n : Int) ≤ A 0 0) {S' : z_St} (hf : ∀ i, S'.1 1 i = S.1 1 i) : txC (A 10) n S' := by
  intro k hk
  refine ⟨hw.P.2.1 k (by omega), ?_⟩
  rw [hf, c_10 h (by omega)]
  rfl
theorem c_0z (h : CI p A S) (hw : wf A) : CI p (aU A 0 0 0) (z_w1 S.1 0 1 (nI 0), S.2) := h.wg (x := 0) (j := 0) (v := 0) hw (by decide) (by decide) (by decide) (fun y hy k hk => by
  rw [dD_0] at hk
  by_cases q : y = 10
  · rw [if_pos q] at hk
    exact absurd hk (Nat.not_lt_zero k)
  · rw [if_neg q] at hk
    exact Or.inl hk)
theorem c_room (h : CI p A S) (hw : wf A) (hn : (n : Int) ≤ A 0 0) (d : Nat) : (∀ c B, pM (A 10) n 700 (rn tkB (A 10) n 0) [] B00 = .inl (c, B) → ∃ S1, z_ew (d + 99) 75 [.ref 0, .int (iI (n : Int))] S = some (.inl (some (.int (iI 0))), S1) ∧ fC S S1 ∧ CI (14 - p) (rmA A B c) S1) ∧ (∀ k pl, pM (A 10) n 700 (rn tkB (A 10) n 0) [] B00 = .inr (k, pl) → (1 ≤ k ∧ k ≤ 3 ∧ pl ≤ n) ∧ ∃ S1, z_ew (d + 99) 75 [.ref 0, .int (iI (n : Int))] S = some (.inl (some (.int (iI k))), S1) ∧ fC S S1 ∧ CI p (rmF A pl) S1) := by
  have hp : p = 2 ∨ p = 12 := h.1
  obtain ⟨q, hq⟩ : ∃ q, q = 14 - p := ⟨_, rfl⟩
  have hq2 : q = 2 ∨ q = 12 := by omega
  have t0 := hw.t
  have h04 : S.1 0 4 = iI (q : Int) := by
    rw [h.2.2.1, show (14 - (p : Int)) = (q : Int) by omega]
  obtain ⟨u1, u2⟩ := q_i hq2
  obtain ⟨v1, v2⟩ := q_i hp
  have hC0 := c_0z h hw
  obtain ⟨S', b1, b2, b3⟩ := c_parse (q := q) (T := A 10) (n := n) hq2 (by omega) (c_txt (S' := (z_w1 S.1 0 1 (nI 0), S.2)) h hw hn (fun i => by dsimp only; rw [z_w1_r, if_neg (by omega)])) d
  have hC1 : CI p (aU A 0 0 0) S' := hC0.fD (by rw [← hq]; exact b3)
  have st : z_ew (d + 99) 75 [.ref 0, .int (iI (n : Int))] S = (if S'.1 22 2 = 0 then (z_R75 (d + 98) 999998 70 0 [some (.ref 0), some (.int (iI (n : Int))), some (.int (S'.1 22 2)), none] [] (z_w1 S'.1 0 2 (S'.1 22 3), S'.2)) else some (.inl (some (.int (S'.1 22 2))), (z_w1 (z_w1 S'.1 0 2 (S'.1 22 3)) 37 0 (S'.1 37 0 + nI 1), S'.2))) := by
    rw [zx_75, if_neg (by rw [iI_0, iI_lt (by omega) (by omega) (by omega) (by omega)]; omega), if_pos (by rw [c_0 h, iI_le (by omega) (by omega) (by omega) (by omega)]; omega), zq_75_22, h04, u1, cond_false, u2, b1, cli_i, zx_23, cli_i]
  have f0 : ∀ a i, a ≠ 22 → a ≠ 23 → (a < q ∨ q + 9 < a) → (a ≠ 0 ∨ i ≠ 1) → S'.1 a i = S.1 a i := by
    intro a i a1 a2 a3 a4
    rw [b3.2 a i a1 a2 a3]
    dsimp only
    rw [z_w1_r, if_neg (by omega)]
  have s2 : S'.2 = S.2 := b3.1
  refine ⟨fun c B hr => ?_, fun k pl hr => ?_⟩
  · rw [hr] at b2
    obtain ⟨⟨s, hO⟩, hP⟩ := b2
    have hO22 : S'.1 22 2 = iI 0 ∧ S'.1 22 3 = iI (-1) := hO.2.2.2.1
    have hOc := hO.2.2.2.2.2
    dsimp only at hP hOc
    obtain ⟨S7, c1, c24, c26, c27, c28, c29, c30, c31, c36, c32, cf, cl⟩ := c_clr (d + 96) (z_w1 (z_w1 (z_w1 S'.1 0 2 (S'.1 22 3)) 0 3 (nI q)) 0 4 (nI p), S'.2)
    have k7 : ∀ a i, a ≠ 0 → a ≠ 24 → (a < 26 ∨ 31 < a) → a ≠ 36 → S7.1 a i = S'.1 a i := by
      intro a i a0 a1 a2 a3
      rw [cf a i a1 a2 a3]
      dsimp only
      rw [z_w1_r, if_neg (by omega), z_w1_r, if_neg (by omega), z_w1_r, if_neg (by omega)]
    have k0 : ∀ i, S7.1 0 i = if i = 4 then nI p else if i = 3 then nI q else if i = 2 then iI (-1) else S'.1 0 i := by
      intro i
      rw [cf 0 i (by omega) (by omega) (by omega)]
      dsimp only
      rw [z_w1_r, z_w1_r, z_w1_r, hO22.2]
      simp only [true_and]
    obtain ⟨S9, hS9⟩ : ∃ S9 : z_St, S9 = (z_w1 (z_w1 S7.1 64 1 (nI 0)) 0 8 (nI 0), S7.2) := ⟨_, rfl⟩
    have k9 : ∀ a i, a ≠ 0 → (a ≠ 64 ∨ i ≠ 1) → S9.1 a i = S7.1 a i := by
      intro a i a1 a2
      rw [hS9]
      dsimp only
      rw [z_w1_r, if_neg (by omega), z_w1_r, if_neg (by omega)]
    have k9o : ∀ i, i ≠ 8 → S9.1 0 i = S7.1 0 i := by
      intro i hi
      rw [hS9]
      dsimp only
      rw [z_w1_r, if_neg (by omega), z_w1_r, if_neg (by omega)]
    have h03' : S'.1 0 3 = iI (p : Int) := hC1.2.1
    have h04' : S'.1 0 4 = iI (q : Int) := by
      rw [hC1.2.2.1, show (14 - (p : Int)) = (q : Int) by omega]
    refine ⟨S9, ?_, fun a ha => ⟨?_, ?_⟩, ?_⟩
    · obtain ⟨S70, hS70⟩ : ∃ S70 : z_St, S70 = (z_w1 S'.1 0 2 (S'.1 22 3), S'.2) := ⟨_, rfl⟩
      have z3 : S70.1 0 3 = iI (p : Int) := by
        rw [hS70]
        dsimp only
        rw [z_w1_r, if_neg (by omega), h03']
      have z4 : S70.1 0 4 = iI (q : Int) := by
        rw [hS70]
        dsimp only
        rw [z_w1_r, if_neg (by omega), h04']
      have c1' : z_ew (d + 98) 5 [.ref 24] (z_w1 (z_w1 S70.1 0 3 (nI q)) 0 4 (nI p), S70.2) = some (.inl none, S7) := by
        rw [hS70]
        exact c1
      rw [st, if_pos (show S'.1 22 2 = 0 from hO22.1), ← hS70, zq_75_70, z3, z4, v1, cond_false, u1, cond_false, u2, v2, show Nat.blt q 2000 = true by rcases hq2 with rfl | rfl <;> rfl, cond_true, show Nat.blt p 2000 = true by rcases hp with rfl | rfl <;> rfl, cond_true, c1', clv_v, zx_70, clv_v, hS9]
      rfl
    · funext i
      rw [k9 a i (by omega) (by omega), k7 a i (by omega) (by omega) (by omega) (by omega), f0 a i (by omega) (by omega) (by omega) (by omega)]
    · funext j
      rw [hS9]
      show S7.2 a j = _
      rw [cl a j (by omega)]
      show S'.2 a j = _
      rw [s2]
    · rw [← hq]
      refine CI_rm hq2 ?_ ?_ ?_ ?_ ?_ ?_ ⟨?_, ?_, ?_, ?_⟩ (hP.f (fun a i a1 a2 => ?_)) (fun i hi => ?_) (fun j hj => ?_) (fun j hj => ?_) (fun j hj => ?_) (fun j hj => ?_) (fun j hj => ?_) (fun j hj => ?_) (fun j hj => ?_) (fun j hj => ?_) (fun j hj => ?_)
      · rw [k9o 1 (by omega), k0 1, if_neg (by omega), if_neg (by omega), if_neg (by omega)]
        rw [b3.2 0 1 (by omega) (by omega) (by omega)]
        dsimp only
        rw [z_w1_r, if_pos ⟨rfl, rfl⟩]
        rfl
      · rw [k9o 2 (by omega), k0 2, if_neg (by omega), if_neg (by omega), if_pos rfl]
      · rw [k9o 3 (by omega), k0 3, if_neg (by omega), if_pos rfl, iI_n]
      · rw [k9o 4 (by omega), k0 4, if_pos rfl, iI_n, show (14 - (q : Int)) = (p : Int) by omega]
      · rw [hS9]; simp [z_w1_r]; rfl
      · rw [hS9]; simp [z_w1_r]; rfl
      · rw [k9 24 0 (by omega) (by omega)]; exact c24.1
      · rw [k9 24 2 (by omega) (by omega)]; exact c24.2.1
      · rw [k9 24 10 (by omega) (by omega)]; exact c24.2.2.1
      · rw [k9 24 12 (by omega) (by omega)]; exact c24.2.2.2
      · rw [k9 a i (by omega) (by omega), k7 a i (by omega) (by omega) (by omega) (by omega)]
      · rw [k9 (q + 9) i (by omega) (by omega), k7 (q + 9) i (by omega) (by omega) (by omega) (by omega)]
        exact hOc i hi
      · rw [k9 26 j (by omega) (by omega)]; exact c26 j hj
      · rw [k9 27 j (by omega) (by omega)]; exact c27 j hj
      · rw [k9 28 j (by omega) (by omega)]; exact c28 j hj
      · rw [k9 29 j (by omega) (by omega)]; exact c29 j hj
      · rw [k9 30 j (by omega) (by omega)]; exact c30 j hj
      · rw [k9 31 j (by omega) (by omega)]; exact c31 j hj
      · rw [k9 36 j (by omega) (by omega)]; exact c36 j hj
      · rw [k9 37 j (by omega) (by omega), k7 37 j (by omega) (by omega) (by omega) (by omega), f0 37 j (by omega) (by omega) (by omega) (by omega)]
        exact c_39 h hj
      · rw [hS9]
        exact c32 j hj
  · rw [hr] at b2
    obtain ⟨a1, a2, a3, a4, a5, a6, -⟩ := b2
    dsimp only at a1 a2 a3 a5 a6
    refine ⟨⟨a1, a2, a3⟩, (z_w1 (z_w1 S'.1 0 2 (S'.1 22 3)) 37 0 (S'.1 37 0 + nI 1), S'.2), ?_, ?_, ?_⟩
    · rw [st, a5, if_neg (by rw [iI_0, iI_eq (by omega) (by omega) (by omega) (by omega)]; omega)]
    · intro a ha
      refine ⟨?_, by show S'.2 a = _; rw [s2]⟩
      funext i
      dsimp only
      rw [z_w1_r, if_neg (by omega), z_w1_r, if_neg (by omega), f0 a i (by omega) (by omega) (by omega) (by omega)]
    · have w0 := wf_0 hw
      have e1 := hC1.w (x := 1) (j := 0) (v := (pl : Int)) w0 (by decide) (by decide) (by decide) (dD_u (by decide))
      have w1 := wf_1 (v := (pl : Int)) w0 (by omega)
      have e2 := e1.w (x := 39) (j := 0) (v := A 39 0 + 1) w1 (by decide) (by decide) (by decide) (dD_u (by decide))
      have z37 : S'.1 37 0 + nI 1 = iI (A 39 0 + 1) := by
        rw [c_39 hC1 (by omega), iI_n 1, iI_add]
        rfl
      rw [z37, a6]
      exact e2
end ROOMC
