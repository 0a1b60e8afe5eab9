/-! what a new room leaves -/
def rmA (A B : aS) (c : List Int) : aS := fun x j => if x = 1 ∨ x = 25 then -1 else if x = 2 ∨ x = 3 ∨ (11 ≤ x ∧ x ≤ 18) then B x j else if x = 67 then (c.length : Int) else if x = 19 then cfn c j else if x = 39 then A 39 j else 0
def rmF (A : aS) (pl : Nat) : aS := aU (aU (aU A 0 0 0) 1 0 (pl : Int)) 39 0 (A 39 0 + 1)
section RM
variable {A B : aS} {c : List Int} {S : z_St}
theorem rm_m {x j : Nat} (h : x = 1 ∨ x = 25) : rmA A B c x j = -1 := by
  unfold rmA
  rw [if_pos h]
theorem rm_p {x j : Nat} (h : x = 2 ∨ x = 3 ∨ (11 ≤ x ∧ x ≤ 18)) : rmA A B c x j = B x j := by
  unfold rmA
  rw [if_neg (by omega), if_pos h]
theorem rm_67 {j : Nat} : rmA A B c 67 j = (c.length : Int) := by
  unfold rmA
  rw [if_neg (by omega), if_neg (by omega), if_pos rfl]
theorem rm_19 {j : Nat} : rmA A B c 19 j = cfn c j := by
  unfold rmA
  rw [if_neg (by omega), if_neg (by omega), if_neg (by omega), if_pos rfl]
theorem rm_39 {j : Nat} : rmA A B c 39 j = A 39 j := by
  unfold rmA
  rw [if_neg (by omega), if_neg (by omega), if_neg (by omega), if_neg (by omega), if_pos rfl]
theorem rm_z {x j : Nat} (h : x ≠ 1 ∧ x ≠ 25 ∧ x ≠ 2 ∧ x ≠ 3 ∧ (x < 11 ∨ 18 < x) ∧ x ≠ 67 ∧ x ≠ 19 ∧ x ≠ 39) : rmA A B c x j = 0 := by
  unfold rmA
  rw [if_neg (by omega), if_neg (by omega), if_neg (by omega), if_neg (by omega), if_neg (by omega)]
theorem rm_rct {j : Nat} : rct (rmA A B c) j = 0 := by
  unfold rct
  rw [fb_ct_zero]
  intro k _
  rw [rm_z (by omega)]
  rfl
theorem wf_rm (h : PB B c) (hc : c.length ≤ 700) : wf (rmA A B c) := by
  obtain ⟨p1, p2, p3, p4, p5⟩ := h
  have z0 : rmA A B c 0 0 = 0 := rm_z (by omega)
  have z2 : rmA A B c 2 0 = B 2 0 := rm_p (by omega)
  have z3 : rmA A B c 3 0 = B 3 0 := rm_p (by omega)
  have z4 : rmA A B c 4 0 = 0 := rm_z (by omega)
  have z5 : rmA A B c 5 0 = 0 := rm_z (by omega)
  have z6 : rmA A B c 6 0 = 0 := rm_z (by omega)
  have z7 : rmA A B c 7 0 = 0 := rm_z (by omega)
  have z8 : rmA A B c 8 0 = 0 := rm_z (by omega)
  have z9 : rmA A B c 9 0 = 0 := rm_z (by omega)
  refine ⟨⟨?_, fun j hj => ?_, ?_, ?_, ?_, fun b hb => ?_, fun r hr => ?_, fun k hk => ?_, Or.inl z8, ?_, fun i hi => ?_, ?_⟩, ⟨?_, ?_, ?_, ?_, fun j _ => ?_, fun j _ => ?_, fun j _ => ?_, fun b r _ _ _ => ?_, fun b r hb _ => ?_, fun i hi => ?_, fun i hi => ?_, fun b => ?_, fun i hi => ?_, fun j _ => ?_⟩, fun h8 => ?_⟩
  · rw [z0]; omega
  · rw [z0] at hj; omega
  · rw [z2]; exact p1
  · rw [z3]; exact p2
  · rw [rm_67]; omega
  · rw [z2] at hb
    rw [rm_p (by omega), rm_p (by omega)]
    exact p3 b hb
  · rw [z3] at hr
    rw [rm_p (by omega), rm_p (by omega), rm_p (by omega), rm_p (by omega), rm_p (by omega), rm_p (by omega), rm_67]
    have e : rmA A B c 19 = cfn c := by
      funext k
      exact rm_19
    rw [e]
    exact p4 r hr
  · rw [rm_67] at hk
    rw [rm_19, cfn_i (by omega)]
    exact p5 _ (List.getElem_mem _)
  · rw [z9]; omega
  · rw [z9] at hi; omega
  · rw [rm_m (by omega)]; omega
  · rw [z4]; omega
  · rw [z5]; omega
  · rw [z6]; omega
  · rw [z7]; omega
  · rw [rm_z (by omega)]; omega
  · rw [rm_z (by omega)]; omega
  · rw [rm_z (x := 22) (by omega), rm_z (x := 23) (by omega), rm_z (x := 24) (by omega), rm_m (x := 25) (by omega), rm_rct]
    omega
  · exact ⟨rm_z (by omega), fun p _ => rm_z (by omega)⟩
  · rw [z2] at hb
    rw [rm_m (x := 25) (by omega), rm_z (x := 24) (by omega), rm_p (x := 11) (by omega)]
    have := (p3 b hb).1
    exact ⟨by omega, fun p _ => Or.inl (rm_z (by omega))⟩
  · rw [z4] at hi; omega
  · rw [z6] at hi; omega
  · rw [z6]
    show fb_ct _ 0 ≤ 6
    exact Nat.zero_le _
  · rw [z7] at hi; omega
  · rw [rm_z (by omega)]; omega
  · rw [z8] at h8; omega
theorem wf_0 (h : wf A) : wf (aU A 0 0 0) := by
  obtain ⟨⟨a1, a2, a3⟩, g2, g3⟩ := h
  refine ⟨⟨by show (0 : Int) ≤ 0 ∧ (0 : Int) ≤ 700; omega, fun j hj => ?_, a3⟩, g2, g3⟩
  have hj : (j : Int) < 0 := hj
  omega
theorem wf_1 {v : Int} (h : wf A) (h1 : -1 ≤ v ∧ v ≤ 700) : wf (aU A 1 0 v) := by
  obtain ⟨⟨a1, a2, a3, a4, a5, a6, a7, a8, a9, a10, a11, a12⟩, g2, g3⟩ := h
  exact ⟨⟨a1, a2, a3, a4, a5, a6, a7, a8, a9, a10, a11, h1⟩, g2, g3⟩
theorem wf_rmF (h : wf A) {pl : Nat} (hp : pl ≤ 700) : wf (rmF A pl) := wf_39 (wf_1 (wf_0 h) (by omega))
theorem rm_D (x : Nat) : dD (rmA A B c) x = if x < 10 then 1 else if x = 10 then 0 else if x < 13 then (B 2 0).toNat else if x < 19 then (B 3 0).toNat else if x = 19 then c.length else if x < 26 then cn x else if x < 38 then 0 else if x < 40 then cn x else if x = 65 then 32080 else 0 := by
  have z0 : rmA A B c 0 0 = 0 := rm_z (by omega)
  have z2 : rmA A B c 2 0 = B 2 0 := rm_p (by omega)
  have z3 : rmA A B c 3 0 = B 3 0 := rm_p (by omega)
  have z4 : rmA A B c 4 0 = 0 := rm_z (by omega)
  have z6 : rmA A B c 6 0 = 0 := rm_z (by omega)
  have z7 : rmA A B c 7 0 = 0 := rm_z (by omega)
  have z8 : rmA A B c 8 0 = 0 := rm_z (by omega)
  have z9 : rmA A B c 9 0 = 0 := rm_z (by omega)
  unfold dD
  rw [z0, z2, z3, z4, z6, z7, z8, z9, rm_67, if_pos rfl]
  by_cases h1 : x < 10
  · rw [if_pos h1, if_pos h1]
  rw [if_neg h1, if_neg h1]
  by_cases h2 : x = 10
  · rw [if_pos h2, if_pos h2]; rfl
  rw [if_neg h2, if_neg h2]
  by_cases h3 : x < 13
  · rw [if_pos h3, if_pos h3]
  rw [if_neg h3, if_neg h3]
  by_cases h4 : x < 19
  · rw [if_pos h4, if_pos h4]
  rw [if_neg h4, if_neg h4]
  by_cases h5 : x = 19
  · rw [if_pos h5, if_pos h5]; rfl
  rw [if_neg h5, if_neg h5]
  by_cases h6 : x < 26
  · rw [if_pos h6, if_pos h6]
  rw [if_neg h6, if_neg h6]
  by_cases h7 : x < 38
  · rw [if_pos h7]
    by_cases q1 : x < 32
    · rw [if_pos q1, if_pos h7]; rfl
    rw [if_neg q1]
    by_cases q2 : x < 36
    · rw [if_pos q2, if_pos h7]; rfl
    rw [if_neg q2, if_pos h7]; rfl
  rw [if_neg (show ¬ x < 32 by omega), if_neg (show ¬ x < 36 by omega), if_neg h7, if_neg h7]
  by_cases h8 : x < 40
  · rw [if_pos h8, if_pos h8]
  rw [if_neg h8, if_neg h8]
  by_cases h9 : x = 40
  · rw [if_pos h9, if_neg (by omega)]; rfl
  rw [if_neg h9]
theorem CI_rm {q : Nat} (hq : q = 2 ∨ q = 12) (h1 : S.1 0 1 = iI 0) (h2 : S.1 0 2 = iI (-1)) (h3 : S.1 0 3 = iI (q : Int)) (h4 : S.1 0 4 = iI (14 - (q : Int))) (h8 : S.1 0 8 = iI 0) (h64 : S.1 64 1 = iI 0) (h24 : S.1 24 0 = iI 0 ∧ S.1 24 2 = iI 0 ∧ S.1 24 10 = iI 0 ∧ S.1 24 12 = iI 0) (hP : PC q B S) (hc : ∀ i (h : i < c.length), S.1 (q + 9) i = iI (enc c[i])) (h26 : ∀ j, j < 10 → S.1 26 j = iI 0) (h27 : ∀ j, j < 8 → S.1 27 j = iI 0) (h28 : ∀ j, j < 80 → S.1 28 j = iI 0) (h29 : ∀ j, j < 80 → S.1 29 j = iI 0) (h30 : ∀ j, j < 80 → S.1 30 j = iI 0) (h31 : ∀ j, j < 80 → S.1 31 j = iI (-1)) (h36 : ∀ j, j < 60 → S.1 36 j = iI 0) (h37 : ∀ j, j < 5 → S.1 37 j = iI (A 39 j)) (h32 : ∀ j, j < 560 → S.2 32 j = 0) : CI q (rmA A B c) S := by
  obtain ⟨p1, p2, p3, p4, p5⟩ := hP
  have z8 : rmA A B c 8 0 = 0 := rm_z (by omega)
  refine ⟨hq, h3, h4, ?_, ?_, fun e => by rw [z8] at e; omega⟩
  · intro x hx j hj
    rw [rm_D] at hj
    by_cases c1 : x < 10
    · rw [if_pos c1] at hj
      have hj0 : j = 0 := by omega
      subst hj0
      have hx10 : x = 0 ∨ x = 1 ∨ x = 2 ∨ x = 3 ∨ x = 4 ∨ x = 5 ∨ x = 6 ∨ x = 7 ∨ x = 8 ∨ x = 9 := by omega
      rcases hx10 with rfl | rfl | rfl | rfl | rfl | rfl | rfl | rfl | rfl | rfl
      · rw [ce_id (by decide) (by decide), rm_z (by omega)]; exact h1
      · rw [ce_id (by decide) (by decide), rm_m (by omega)]; exact h2
      · rw [ce_id (by decide) (by decide), rm_p (by omega)]; exact p3
      · rw [ce_id (by decide) (by decide), rm_p (by omega)]; exact p4
      · rw [ce_id (by decide) (by decide), rm_z (by omega)]; exact h24.1
      · rw [ce_id (by decide) (by decide), rm_z (by omega)]; exact h24.2.1
      · rw [ce_id (by decide) (by decide), rm_z (by omega)]; exact h24.2.2.1
      · rw [ce_id (by decide) (by decide), rm_z (by omega)]; exact h24.2.2.2
      · rw [ce_id (by decide) (by decide), rm_z (by omega)]; exact h8
      · rw [ce_id (by decide) (by decide), rm_z (by omega)]; exact h64
    rw [if_neg c1] at hj
    by_cases c2 : x = 10
    · rw [if_pos c2] at hj; omega
    rw [if_neg c2] at hj
    by_cases c3 : x < 19
    · have hpd : (j : Int) < pD B x := by
        unfold pD
        by_cases c13 : x < 13
        · rw [if_pos c13] at hj ⊢
          omega
        · rw [if_neg c13, if_pos c3] at hj
          rw [if_neg c13]
          omega
      have := p5 x j (by omega) (by omega) hpd
      rw [ce_id (by omega) (by omega), rm_p (by omega), ← this]
      have e : ci q x = q + (x - 10) ∧ cx x j = j := by
        have hx18 : x = 11 ∨ x = 12 ∨ x = 13 ∨ x = 14 ∨ x = 15 ∨ x = 16 ∨ x = 17 ∨ x = 18 := by omega
        rcases hx18 with rfl | rfl | rfl | rfl | rfl | rfl | rfl | rfl <;> exact ⟨rfl, by show 0 + 1 * j = j; omega⟩
      rw [e.1, e.2]
    rw [if_neg (show ¬ x < 13 by omega), if_neg c3] at hj
    by_cases c4 : x = 19
    · rw [if_pos c4] at hj
      subst c4
      have e2 : cx 19 j = j := by show 0 + 1 * j = j; omega
      rw [rm_19, cfn_i hj, e2]
      exact hc j hj
    rw [if_neg c4] at hj
    by_cases c5 : x < 26
    · rw [if_pos c5] at hj
      have hx26 : x = 20 ∨ x = 21 ∨ x = 22 ∨ x = 23 ∨ x = 24 ∨ x = 25 := by omega
      rcases hx26 with rfl | rfl | rfl | rfl | rfl | rfl
      · have hj : j < 10 := hj
        rw [ce_id (by decide) (by decide), rm_z (by omega)]
        exact h26 _ (by show 0 + 1 * j < 10; omega)
      · have hj : j < 8 := hj
        rw [ce_id (by decide) (by decide), rm_z (by omega)]
        exact h27 _ (by show 0 + 1 * j < 8; omega)
      · have hj : j < 80 := hj
        rw [ce_id (by decide) (by decide), rm_z (by omega)]
        exact h28 _ (by show (j % 8) * 10 + j / 8 < 80; omega)
      · have hj : j < 80 := hj
        rw [ce_id (by decide) (by decide), rm_z (by omega)]
        exact h29 _ (by show (j % 8) * 10 + j / 8 < 80; omega)
      · have hj : j < 80 := hj
        rw [ce_id (by decide) (by decide), rm_z (by omega)]
        exact h30 _ (by show (j % 8) * 10 + j / 8 < 80; omega)
      · have hj : j < 80 := hj
        rw [ce_id (by decide) (by decide), rm_m (by omega)]
        exact h31 _ (by show (j % 8) * 10 + j / 8 < 80; omega)
    rw [if_neg c5] at hj
    by_cases c6 : x < 38
    · rw [if_pos c6] at hj; omega
    rw [if_neg c6] at hj
    by_cases c7 : x < 40
    · rw [if_pos c7] at hj
      have hx40 : x = 38 ∨ x = 39 := by omega
      rcases hx40 with rfl | rfl
      · have hj : j < 60 := hj
        rw [ce_id (by decide) (by decide), rm_z (by omega)]
        exact h36 _ (by show 0 + 1 * j < 60; omega)
      · have hj : j < 5 := hj
        have e2 : cx 39 j = j := by show 0 + 1 * j = j; omega
        rw [ce_id (by decide) (by decide), rm_39, e2]
        exact h37 j hj
    rw [if_neg c7, if_neg (by omega)] at hj
    omega
  · intro b r hb hr p hp
    rw [h32 _ (by omega), rm_z (by omega)]
    simp
theorem MI_rm (h17 : S.1 70 17 = iI 0) (h26 : S.1 70 26 = iI (-1)) (h2 : S.1 70 2 = iI (B 2 0)) (h3 : S.1 70 3 = iI (B 3 0)) (h28 : S.1 70 28 = iI 0) (h29 : S.1 70 29 = iI 0) (h44 : S.1 70 44 = iI 0) (h57 : S.1 70 57 = iI 0) (h67 : S.1 70 67 = iI 0) (h63 : S.1 70 63 = iI (-1)) (hp : ∀ x j : Nat, 11 ≤ x → x ≤ 18 → (j : Int) < pD B x → S.1 (mj x) j = iI (B x j)) (hc : ∀ i (h : i < c.length), S.1 79 i = iI c[i]) (hb2 : 0 ≤ B 2 0 ∧ 0 ≤ B 3 0) (h86 : ∀ j, j < 10 → S.1 86 j = iI 0) (h87 : ∀ j, j < 8 → S.1 87 j = iI 0) (h83 : ∀ j, j < 80 → S.1 83 j = iI 0) (h84 : ∀ j, j < 80 → S.1 84 j = iI 0) (h85 : ∀ j, j < 80 → S.1 85 j = iI (-1)) (h112 : ∀ j, j < 60 → S.1 112 j = iI 0) (h80 : ∀ j, j < 5 → S.1 80 j = iI (A 39 j)) (h88 : ∀ j, j < 32080 → S.1 88 j = iI 0) : MI (rmA A B c) S := by
  have z9 : rmA A B c 9 0 = 0 := rm_z (by omega)
  refine ⟨?_, Or.inr ⟨h63, z9⟩⟩
  intro x hx j hj
  unfold mD at hj
  by_cases c0 : x = 9 ∨ x = 24 ∨ x = 49
  · rw [if_pos c0] at hj; omega
  rw [if_neg c0, rm_D] at hj
  by_cases c1 : x < 10
  · rw [if_pos c1] at hj
    have hj0 : j = 0 := by omega
    subst hj0
    have hx10 : x = 0 ∨ x = 1 ∨ x = 2 ∨ x = 3 ∨ x = 4 ∨ x = 5 ∨ x = 6 ∨ x = 7 ∨ x = 8 := by omega
    rcases hx10 with rfl | rfl | rfl | rfl | rfl | rfl | rfl | rfl | rfl
    · rw [rm_z (by omega)]; exact h17
    · rw [rm_m (by omega)]; exact h26
    · rw [rm_p (by omega)]; exact h2
    · rw [rm_p (by omega)]; exact h3
    · rw [rm_z (by omega)]; exact h28
    · rw [rm_z (by omega)]; exact h29
    · rw [rm_z (by omega)]; exact h44
    · rw [rm_z (by omega)]; exact h57
    · rw [rm_z (by omega)]; exact h67
  rw [if_neg c1] at hj
  by_cases c2 : x = 10
  · rw [if_pos c2] at hj; omega
  rw [if_neg c2] at hj
  by_cases c3 : x < 19
  · have hpd : (j : Int) < pD B x := by
      unfold pD
      by_cases c13 : x < 13
      · rw [if_pos c13] at hj ⊢
        omega
      · rw [if_neg c13, if_pos c3] at hj
        rw [if_neg c13]
        omega
    rw [rm_p (by omega), ← hp x j (by omega) (by omega) hpd]
    have e : mi x = mj x ∧ mx x j = j := by
      have hx18 : x = 11 ∨ x = 12 ∨ x = 13 ∨ x = 14 ∨ x = 15 ∨ x = 16 ∨ x = 17 ∨ x = 18 := by omega
      rcases hx18 with rfl | rfl | rfl | rfl | rfl | rfl | rfl | rfl <;> exact ⟨rfl, by show 0 + 1 * j = j; omega⟩
    rw [e.1, e.2]
  rw [if_neg (show ¬ x < 13 by omega), if_neg c3] at hj
  by_cases c4 : x = 19
  · rw [if_pos c4] at hj
    subst c4
    have e2 : mx 19 j = j := by show 0 + 1 * j = j; omega
    rw [rm_19, cfn_i hj, e2]
    exact hc j hj
  rw [if_neg c4] at hj
  by_cases c5 : x < 26
  · rw [if_pos c5] at hj
    have hx26 : x = 20 ∨ x = 21 ∨ x = 22 ∨ x = 23 ∨ x = 25 := by omega
    rcases hx26 with rfl | rfl | rfl | rfl | rfl
    · have hj : j < 10 := hj
      rw [rm_z (by omega)]
      exact h86 _ (by show 0 + 1 * j < 10; omega)
    · have hj : j < 8 := hj
      rw [rm_z (by omega)]
      exact h87 _ (by show 0 + 1 * j < 8; omega)
    · have hj : j < 80 := hj
      rw [rm_z (by omega)]
      exact h83 _ (by show 0 + 1 * j < 80; omega)
    · have hj : j < 80 := hj
      rw [rm_z (by omega)]
      exact h84 _ (by show 0 + 1 * j < 80; omega)
    · have hj : j < 80 := hj
      rw [rm_m (by omega)]
      exact h85 _ (by show 0 + 1 * j < 80; omega)
  rw [if_neg c5] at hj
  by_cases c6 : x < 38
  · rw [if_pos c6] at hj; omega
  rw [if_neg c6] at hj
  by_cases c7 : x < 40
  · rw [if_pos c7] at hj
    have hx40 : x = 38 ∨ x = 39 := by omega
    rcases hx40 with rfl | rfl
    · have hj : j < 60 := hj
      rw [rm_z (by omega)]
      exact h112 _ (by show 0 + 1 * j < 60; omega)
    · have hj : j < 5 := hj
      have e2 : mx 39 j = j := by show 0 + 1 * j = j; omega
      rw [rm_39, e2]
      exact h80 j hj
  rw [if_neg c7] at hj
  by_cases c8 : x = 65
  · rw [if_pos c8] at hj
    subst c8
    rw [rm_z (by omega)]
    exact h88 _ (by show 0 + 1 * j < 32080; omega)
  rw [if_neg c8] at hj
  omega
end RM
