/-! the invariant at the start; the law's loop out of its cases -/
def A0 : aS := fun x _ => if x = 1 then -1 else 0
theorem A0_d : ∀ x, x < 65 → dD A0 x = 0 ∨ x < 10 ∨ (ci 2 x ≠ 0 ∧ ci 2 x ≠ 22 ∧ ci 2 x ≠ 23 ∧ ci 2 x ≠ 55 ∧ ci 2 x ≠ 70 ∧ ci 2 x < 117 ∧ x ≠ 10 ∧ x ≠ 19 ∧ x ≠ 1) := by decide +kernel
theorem A0_e : ∀ x, x < 67 → mD A0 x = 0 ∨ x < 9 ∨ (mi x ≠ 0 ∧ mi x ≠ 22 ∧ mi x ≠ 23 ∧ mi x ≠ 55 ∧ mi x ≠ 70 ∧ mi x < 117 ∧ x ≠ 1) := by decide +kernel
theorem A0_s : ∀ x, x < 10 → ci 2 x < 117 ∧ dD A0 x = 1 ∧ z_M0 (ci 2 x) (cx x 0) = iI (ce x (A0 x 0)) := by decide +kernel
theorem A0_t : ∀ x, x < 9 → mi x < 117 ∧ mD A0 x = 1 ∧ z_M0 (mi x) (mx x 0) = iI (A0 x 0) := by decide +kernel
theorem A0_z {x j : Nat} (h : x ≠ 1) : A0 x j = 0 := by simp [A0, h]
theorem M0_z {a k : Nat} (h0 : a ≠ 0) (h1 : a ≠ 22) (h2 : a ≠ 23) (h3 : a ≠ 55) (h4 : a ≠ 70) : z_M0 a k = 0 := by simp [z_M0, h0, h1, h2, h3, h4]
theorem A0_r (j : Nat) : rct A0 j = 0 := by
  unfold rct
  rw [fb_ct_zero]
  intro k _
  simp [A0]
theorem kA0_r (j : Nat) : A0 24 j = (rct A0 j : Int) := by rw [A0_r]; rfl
theorem A0_L : LW A0 A0 := by
  refine ⟨by decide, by decide, by decide, by decide, fun j _ => by decide +revert, fun j _ => by decide +revert, fun j _ => ⟨⟨?_, ?_⟩, ⟨?_, ?_⟩, ?_, kA0_r j, ?_, ?_⟩, fun b r _ _ _ => ⟨rfl, fun p _ => rfl⟩, fun b r hb _ => ?_, fun i hi => ?_, fun i hi => ?_, fun b => ?_, fun i hi => ?_, fun j _ => ⟨?_, ?_⟩⟩
  · show (-1 : Int) ≤ 0; decide
  · show (0 : Int) ≤ 401; decide
  · show (0 : Int) ≤ 0; decide
  · show (0 : Int) ≤ 401; decide
  · exact ⟨fun _ => rfl, fun _ => rfl⟩
  · show (-1 : Int) ≤ 0; decide
  · show (0 : Int) ≤ 8784; decide
  · have hb : (b : Int) < 0 := hb
    omega
  · have hi : (i : Int) < 0 := hi
    omega
  · have hi : (i : Int) < 0 := hi
    omega
  · show fb_ct _ 0 ≤ 6
    exact Nat.zero_le _
  · have hi : (i : Int) < 0 := hi
    omega
  · show (0 : Int) ≤ 0; decide
  · show (0 : Int) ≤ 401; decide
theorem A0_P : PW A0 := by
  refine ⟨by decide, fun j hj => ?_, by decide, by decide, by decide, fun b hb => ?_, fun r hr => ?_, fun k hk => ?_, by decide, by decide, fun i hi => ?_, by decide⟩
  · have hj : (j : Int) < 0 := hj
    omega
  · have hb : (b : Int) < 0 := hb
    omega
  · have hr : (r : Int) < 0 := hr
    omega
  · have hk : (k : Int) < 0 := hk
    omega
  · have hi : (i : Int) < 0 := hi
    omega
theorem A0_wf : wf A0 := ⟨A0_P, A0_L, fun h => by cases h⟩
theorem A0_AI (n : Nat) (xs : Nat → Int32) : AI (z_S0 n xs) := by
  refine ⟨2, A0, ⟨Or.inl rfl, rfl, rfl, ?_, ?_, fun h => by cases h⟩, ⟨?_, Or.inr ⟨rfl, rfl⟩⟩, A0_wf⟩
  · intro x hx j hj
    rcases A0_d x hx with q | q | ⟨q0, q1, q2, q3, q4, q5, q6, q7, q8⟩
    · omega
    · obtain ⟨g1, g2, g3⟩ := A0_s x q
      have hj0 : j = 0 := by omega
      subst hj0
      rw [z_S0_1 g1, g3]
    · rw [z_S0_1 q5, M0_z q0 q1 q2 q3 q4, ce_id q6 q7, A0_z q8]
      rfl
  · intro b r _ _ p _
    show (0 : Int64).toBitVec.getLsbD (p % 64) = _
    have e : A0 65 (401 * (8 * b + r) + p + 1) = 0 := rfl
    rw [e]
    simp
  · intro x hx j hj
    rcases A0_e x hx with q | q | ⟨q0, q1, q2, q3, q4, q5, q6⟩
    · omega
    · obtain ⟨g1, g2, g3⟩ := A0_t x q
      have hj0 : j = 0 := by omega
      subst hj0
      rw [z_S0_1 g1, g3]
    · rw [z_S0_1 q5, M0_z q0 q1 q2 q3 q4, A0_z q6]
      rfl
/-- what is wanted of the calls -/
def AllOps : Prop :=
  (∀ a b c d e : Int32, ∀ S, AI S → ∃ (y : Int32) (S1 S2 : z_St), z_ew 1000 74 [.ref 0, .int a, .int b, .int c, .int d, .int e] S = some (.inl (some (.int y)), S1) ∧ z_ew 1000 115 [.ref 70, .int a, .int b, .int c, .int d, .int e] S1 = some (.inl (some (.int y)), S2) ∧ AI S2) ∧
  (∀ a, OpW 191 137 [.int a]) ∧
  (∀ S, AI S → ∃ (y : Int32) (S1 S2 : z_St), z_ew 1000 76 [.ref 0] S = some (.inl (some (.int y)), S1) ∧ z_ew 1000 139 [.ref 70] S1 = some (.inl (some (.int y)), S2) ∧ AI S2) ∧
  (∀ a, OpW 192 140 [.int a]) ∧ (∀ a b, OpW 193 145 [.int a, .int b]) ∧ (∀ a b, OpW 194 146 [.int a, .int b]) ∧ (∀ a b c d, OpW 195 152 [.int a, .int b, .int c, .int d]) ∧ (∀ a b, OpW 196 153 [.int a, .int b]) ∧ (∀ a b c, OpW 197 154 [.int a, .int b, .int c]) ∧ (∀ a b, OpW 198 155 [.int a, .int b]) ∧ (∀ a b c, OpW 199 157 [.int a, .int b, .int c]) ∧ (∀ a b c, OpB 200 158 [.int a, .int b, .int c]) ∧ (∀ a b c, OpW 201 159 [.int a, .int b, .int c]) ∧ (∀ a b c d, OpW 202 161 [.int a, .int b, .int c, .int d]) ∧ (∀ a, OpW 203 169 [.int a]) ∧ (∀ a b, OpW 204 170 [.int a, .int b]) ∧ (∀ a b c, OpW 205 171 [.int a, .int b, .int c]) ∧ (∀ a, OpW 206 172 [.int a]) ∧ (∀ a b c, OpW 207 173 [.int a, .int b, .int c]) ∧
  (∀ S, AI S → ∃ (y : Int32) (S1 S2 : z_St), z_ew 1000 93 [.ref 0] S = some (.inl (some (.int y)), S1) ∧ z_ew 1000 175 [.ref 70] S1 = some (.inl (some (.int y)), S2) ∧ AI S2) ∧
  (∀ a, OpW 208 176 [.int a]) ∧ (∀ a b c, OpB 209 177 [.int a, .int b, .int c]) ∧ (∀ a b, OpW 210 180 [.int a, .int b]) ∧
  (∀ S, AI S → ∃ (S1 S2 : z_St), z_ew 1000 97 [.ref 0] S = some (.inl none, S1) ∧ z_ew 1000 183 [.ref 70] S1 = some (.inl none, S2) ∧ AI S2) ∧
  (∀ S, AI S → ∃ (y : Int32) (S1 S2 : z_St), z_ew 1000 98 [.ref 0] S = some (.inl (some (.int y)), S1) ∧ z_ew 1000 184 [.ref 70] S1 = some (.inl (some (.int y)), S2) ∧ AI S2)
theorem and31 (x : Int32) : ∃ k : Nat, k < 32 ∧ x &&& nI 31 = iI k := by
  obtain ⟨m, -, rfl⟩ := wb_of32 x
  refine ⟨m % 32, by omega, ?_⟩
  have := fa_mask m 5
  rw [← iI_n]
  exact this
theorem law_step (h : AllOps) {n i z : Nat} {xs : Nat → Int32} {S : z_St} (hS : lS n xs S) (hA : AI S) (hi : i + 6 ≤ n) (hn : n ≤ 384) (hz : z < 100000) : ∃ S1, lS n xs S1 ∧ AI S1 ∧ ∃ c z1, c ≤ 9 ∧ z1 ≤ z + 1 ∧ ∀ f, z_R211 1000 (f + c) 23 z (Lo (nI i)) [] S = z_R211 1000 f 23 z1 (Lo (nI (i + 6))) [] S1 := by
  obtain ⟨h0, h1, h2, h3, h4, h5, h6, h7, h8, h9, h10, h11, h12, h13, h14, h15, h16, h17, h18, h19, h20, h21, h22, h23, h24⟩ := h
  obtain ⟨k, hk, hx⟩ := and31 (S.1 1300 i)
  have e0 : ∀ f, z_R211 1000 (f + 1) 23 z (Lo (nI i)) [] S = z_sw (iI k) 1685 0 24 #[116, 189, 245, 258, 314, 382, 450, 542, 610, 690, 758, 838, 925, 1005, 1097, 1153, 1221, 1301, 1357, 1437, 1450, 1506, 1593, 1661, 1672] (fun o => z_R211 1000 f (z_tg 40 o) z (Lo (nI i)) [] S) := by
    intro f
    have g1 : z_ix (nI i) (S.1 1301 0).toNatClampNeg = true := by
      rw [hS.2, nI_clamp (by omega), iI_n]
      exact iI_ixt (by omega) (by omega) (by omega)
    rw [zq_211_23, g1, if_neg, cond_true, nI_clamp (by omega), hx]
    rw [hS.2, iI_n, iI_n, iI_n, iI_sub, iI_lt (by omega) (by omega) (by omega) (by omega)]
    omega
  have fin : ∀ (pc : Nat), (∃ S1, lS n xs S1 ∧ AI S1 ∧ ∃ c z1, c ≤ 8 ∧ z1 ≤ z + 1 ∧ ∀ f, z_R211 1000 (f + c) pc z (Lo (nI i)) [] S = z_R211 1000 f 23 z1 (Lo (nI (i + 6))) [] S1) → (∀ f, z_R211 1000 (f + 1) 23 z (Lo (nI i)) [] S = z_R211 1000 f pc z (Lo (nI i)) [] S) → ∃ S1, lS n xs S1 ∧ AI S1 ∧ ∃ c z1, c ≤ 9 ∧ z1 ≤ z + 1 ∧ ∀ f, z_R211 1000 (f + c) 23 z (Lo (nI i)) [] S = z_R211 1000 f 23 z1 (Lo (nI (i + 6))) [] S1 := by
    intro pc hq he
    obtain ⟨S1, g1, g2, c, z1, g3, g4, g5⟩ := hq
    refine ⟨S1, g1, g2, c + 1, z1, by omega, g4, fun f => ?_⟩
    rw [← Nat.add_assoc, he, g5]
  have up : ∀ (pc zz : Nat), zz ≤ z + 1 → (∃ S1, lS n xs S1 ∧ AI S1 ∧ ∃ c, c ≤ 8 ∧ ∀ f, z_R211 1000 (f + c) pc z (Lo (nI i)) [] S = z_R211 1000 f 23 zz (Lo (nI (i + 6))) [] S1) → ∃ S1, lS n xs S1 ∧ AI S1 ∧ ∃ c z1, c ≤ 8 ∧ z1 ≤ z + 1 ∧ ∀ f, z_R211 1000 (f + c) pc z (Lo (nI i)) [] S = z_R211 1000 f 23 z1 (Lo (nI (i + 6))) [] S1 := by
    intro pc zz hzz hq
    obtain ⟨S1, g1, g2, c, g3, g5⟩ := hq
    exact ⟨S1, g1, g2, c, zz, g3, hzz, g5⟩
  by_cases hv : 24 < k
  · refine fin 1725 ⟨S, hS, hA, 1, z, by decide, by omega, fun f => ?_⟩ (fun f => ?_)
    · rw [zq_211_1725, nI_add]
    · rw [e0, sw_out (iI_i (by omega) (by omega)) (by omega)]
      rfl
  · have hk2 : k = 0 ∨ k = 1 ∨ k = 2 ∨ k = 3 ∨ k = 4 ∨ k = 5 ∨ k = 6 ∨ k = 7 ∨ k = 8 ∨ k = 9 ∨ k = 10 ∨ k = 11 ∨ k = 12 ∨ k = 13 ∨ k = 14 ∨ k = 15 ∨ k = 16 ∨ k = 17 ∨ k = 18 ∨ k = 19 ∨ k = 20 ∨ k = 21 ∨ k = 22 ∨ k = 23 ∨ k = 24 := by omega
    rcases hk2 with rfl | rfl | rfl | rfl | rfl | rfl | rfl | rfl | rfl | rfl | rfl | rfl | rfl | rfl | rfl | rfl | rfl | rfl | rfl | rfl | rfl | rfl | rfl | rfl | rfl
    · exact fin 156 (up 156 z (by omega) (lc_0 (h0 _ _ _ _ _) hS hA hi hn hz)) (fun f => by rw [e0, sw_in (iI_i (by decide) (by decide)) (by decide) rfl]; rfl)
    · exact fin 229 (up 229 (z + 1) (by omega) (lc_1 (h1 _) hS hA hi hn hz)) (fun f => by rw [e0, sw_in (iI_i (by decide) (by decide)) (by decide) rfl]; rfl)
    · exact fin 285 (up 285 z (by omega) (lc_2 (h2) hS hA hi hn hz)) (fun f => by rw [e0, sw_in (iI_i (by decide) (by decide)) (by decide) rfl]; rfl)
    · exact fin 298 (up 298 (z + 1) (by omega) (lc_3 (h3 _) hS hA hi hn hz)) (fun f => by rw [e0, sw_in (iI_i (by decide) (by decide)) (by decide) rfl]; rfl)
    · exact fin 354 (up 354 (z + 1) (by omega) (lc_4 (h4 _ _) hS hA hi hn hz)) (fun f => by rw [e0, sw_in (iI_i (by decide) (by decide)) (by decide) rfl]; rfl)
    · exact fin 422 (up 422 (z + 1) (by omega) (lc_5 (h5 _ _) hS hA hi hn hz)) (fun f => by rw [e0, sw_in (iI_i (by decide) (by decide)) (by decide) rfl]; rfl)
    · exact fin 490 (up 490 (z + 1) (by omega) (lc_6 (h6 _ _ _ _) hS hA hi hn hz)) (fun f => by rw [e0, sw_in (iI_i (by decide) (by decide)) (by decide) rfl]; rfl)
    · exact fin 582 (up 582 (z + 1) (by omega) (lc_7 (h7 _ _) hS hA hi hn hz)) (fun f => by rw [e0, sw_in (iI_i (by decide) (by decide)) (by decide) rfl]; rfl)
    · exact fin 650 (up 650 (z + 1) (by omega) (lc_8 (h8 _ _ _) hS hA hi hn hz)) (fun f => by rw [e0, sw_in (iI_i (by decide) (by decide)) (by decide) rfl]; rfl)
    · exact fin 730 (up 730 (z + 1) (by omega) (lc_9 (h9 _ _) hS hA hi hn hz)) (fun f => by rw [e0, sw_in (iI_i (by decide) (by decide)) (by decide) rfl]; rfl)
    · exact fin 798 (up 798 (z + 1) (by omega) (lc_10 (h10 _ _ _) hS hA hi hn hz)) (fun f => by rw [e0, sw_in (iI_i (by decide) (by decide)) (by decide) rfl]; rfl)
    · exact fin 878 (up 878 (z + 1) (by omega) (lc_11 (h11 _ _ _) hS hA hi hn hz)) (fun f => by rw [e0, sw_in (iI_i (by decide) (by decide)) (by decide) rfl]; rfl)
    · exact fin 965 (up 965 (z + 1) (by omega) (lc_12 (h12 _ _ _) hS hA hi hn hz)) (fun f => by rw [e0, sw_in (iI_i (by decide) (by decide)) (by decide) rfl]; rfl)
    · exact fin 1045 (up 1045 (z + 1) (by omega) (lc_13 (h13 _ _ _ _) hS hA hi hn hz)) (fun f => by rw [e0, sw_in (iI_i (by decide) (by decide)) (by decide) rfl]; rfl)
    · exact fin 1137 (up 1137 (z + 1) (by omega) (lc_14 (h14 _) hS hA hi hn hz)) (fun f => by rw [e0, sw_in (iI_i (by decide) (by decide)) (by decide) rfl]; rfl)
    · exact fin 1193 (up 1193 (z + 1) (by omega) (lc_15 (h15 _ _) hS hA hi hn hz)) (fun f => by rw [e0, sw_in (iI_i (by decide) (by decide)) (by decide) rfl]; rfl)
    · exact fin 1261 (up 1261 (z + 1) (by omega) (lc_16 (h16 _ _ _) hS hA hi hn hz)) (fun f => by rw [e0, sw_in (iI_i (by decide) (by decide)) (by decide) rfl]; rfl)
    · exact fin 1341 (up 1341 (z + 1) (by omega) (lc_17 (h17 _) hS hA hi hn hz)) (fun f => by rw [e0, sw_in (iI_i (by decide) (by decide)) (by decide) rfl]; rfl)
    · exact fin 1397 (up 1397 (z + 1) (by omega) (lc_18 (h18 _ _ _) hS hA hi hn hz)) (fun f => by rw [e0, sw_in (iI_i (by decide) (by decide)) (by decide) rfl]; rfl)
    · exact fin 1477 (up 1477 z (by omega) (lc_19 (h19) hS hA hi hn hz)) (fun f => by rw [e0, sw_in (iI_i (by decide) (by decide)) (by decide) rfl]; rfl)
    · exact fin 1490 (up 1490 (z + 1) (by omega) (lc_20 (h20 _) hS hA hi hn hz)) (fun f => by rw [e0, sw_in (iI_i (by decide) (by decide)) (by decide) rfl]; rfl)
    · exact fin 1546 (up 1546 (z + 1) (by omega) (lc_21 (h21 _ _ _) hS hA hi hn hz)) (fun f => by rw [e0, sw_in (iI_i (by decide) (by decide)) (by decide) rfl]; rfl)
    · exact fin 1633 (up 1633 (z + 1) (by omega) (lc_22 (h22 _ _) hS hA hi hn hz)) (fun f => by rw [e0, sw_in (iI_i (by decide) (by decide)) (by decide) rfl]; rfl)
    · exact fin 1701 (up 1701 z (by omega) (lc_23 (h23) hS hA hi hn hz)) (fun f => by rw [e0, sw_in (iI_i (by decide) (by decide)) (by decide) rfl]; rfl)
    · exact fin 1712 (up 1712 z (by omega) (lc_24 (h24) hS hA hi hn hz)) (fun f => by rw [e0, sw_in (iI_i (by decide) (by decide)) (by decide) rfl]; rfl)
theorem law_all (h : AllOps) (n : Nat) (xs : Nat → Int32) (hn : n ≤ 384) : ∀ (m i z f : Nat) (S : z_St), n ≤ i + m → i ≤ n + 6 → z + m ≤ 99999 → 10 * m + 10 ≤ f → lS n xs S → AI S → ∃ S', z_R211 1000 f 23 z (Lo (nI i)) [] S = some (.inl (some (.int 1)), S')
  | m, i, z, f, S, hm, hi, hz, hf, hS, hA => by
    by_cases hq : i + 6 ≤ n
    · obtain ⟨S1, g1, g2, c, z1, g3, g4, g5⟩ := law_step (z := z) h hS hA hq hn (by omega)
      obtain ⟨m', hm'⟩ : ∃ m', m = m' + 6 := ⟨m - 6, by omega⟩
      obtain ⟨f', hf'⟩ : ∃ f', f = f' + c := ⟨f - c, by omega⟩
      subst hm'
      subst hf'
      rw [g5]
      exact law_all h n xs hn m' (i + 6) z1 f' S1 (by omega) (by omega) (by omega) (by omega) g1 g2
    · obtain ⟨f', hf'⟩ : ∃ f', f = f' + 2 := ⟨f - 2, by omega⟩
      subst hf'
      refine ⟨S, ?_⟩
      rw [zq_211_23, if_pos, zq_211_1731]
      · rfl
      · rw [hS.2, iI_n, iI_n, iI_n, iI_sub, iI_lt (by omega) (by omega) (by omega) (by omega)]
        omega
  termination_by m _ _ _ _ => m
theorem law_of (h : AllOps) (n : Nat) (xs : Nat → Int32) (hn : n ≤ 384) : ∃ S', z_R211 1000 z_fuel 23 20000 z_L0 [] (z_S0 n xs) = some (.inl (some (.int 1)), S') :=
  law_all h n xs hn n 0 20000 z_fuel (z_S0 n xs) (by omega) (by omega) (by omega) (by have : z_fuel = 1000000 := rfl; omega) ⟨fun j _ => rfl, rfl⟩ (A0_AI n xs)
