/-! restore in the class; image and restore in the model -/
theorem res_o {A : aS} : ∀ y, y < 65 → ¬ (4 ≤ y ∧ y ≤ 7 ∨ 20 ≤ y ∧ y ≤ 39) → dD (resA A) y = dD A y := by
  intro y hy hq
  have h : y = 0 ∨ y = 1 ∨ y = 2 ∨ y = 3 ∨ y = 8 ∨ y = 9 ∨ y = 10 ∨ y = 11 ∨ y = 12 ∨ y = 13 ∨ y = 14 ∨ y = 15 ∨ y = 16 ∨ y = 17 ∨ y = 18 ∨ y = 19 ∨ y = 40 ∨ y = 41 ∨ y = 42 ∨ y = 43 ∨ y = 44 ∨ y = 45 ∨ y = 46 ∨ y = 47 ∨ y = 48 ∨ y = 49 ∨ y = 50 ∨ y = 51 ∨ y = 52 ∨ y = 53 ∨ y = 54 ∨ y = 55 ∨ y = 56 ∨ y = 57 ∨ y = 58 ∨ y = 59 ∨ y = 60 ∨ y = 61 ∨ y = 62 ∨ y = 63 ∨ y = 64 := by omega
  rcases h with rfl | rfl | rfl | rfl | rfl | rfl | rfl | rfl | rfl | rfl | rfl | rfl | rfl | rfl | rfl | rfl | rfl | rfl | rfl | rfl | rfl | rfl | rfl | rfl | rfl | rfl | rfl | rfl | rfl | rfl | rfl | rfl | rfl | rfl | rfl | rfl | rfl | rfl | rfl | rfl | rfl <;> rfl
theorem res_l {A : aS} (h8 : A 8 0 = 1) : ∀ y, isL y → dD (resA A) y = dD A (kx y) := by
  intro y hy
  have hq : ∀ (a b : Nat), b = (if A 8 0 = 0 then a else b) := fun a b => (if_neg (by omega)).symm
  unfold isL at hy
  have h : y = 4 ∨ y = 5 ∨ y = 6 ∨ y = 7 ∨ y = 20 ∨ y = 21 ∨ y = 22 ∨ y = 23 ∨ y = 24 ∨ y = 25 ∨ y = 26 ∨ y = 27 ∨ y = 28 ∨ y = 29 ∨ y = 30 ∨ y = 31 ∨ y = 32 ∨ y = 33 ∨ y = 34 ∨ y = 35 ∨ y = 36 ∨ y = 37 ∨ y = 38 ∨ y = 39 := by omega
  rcases h with rfl | rfl | rfl | rfl | rfl | rfl | rfl | rfl | rfl | rfl | rfl | rfl | rfl | rfl | rfl | rfl | rfl | rfl | rfl | rfl | rfl | rfl | rfl | rfl <;> exact hq 0 _
theorem kx_t : ∀ p, (p = 2 ∨ p = 12) → ∀ y, y < 65 → (4 ≤ y ∧ y ≤ 7 ∨ 20 ≤ y ∧ y ≤ 39) → kx y < 65 ∧ 41 ≤ kx y ∧ ci p (kx y) = ci p y + 14 ∧ (cT.getD (kx y) (0, 0, 0, 0, 0)).1 = (cT.getD y (0, 0, 0, 0, 0)).1 ∧ (cT.getD (kx y) (0, 0, 0, 0, 0)).2.2 = (cT.getD y (0, 0, 0, 0, 0)).2.2 := by
  intro p hp
  rcases hp with rfl | rfl <;> decide +kernel
theorem ci_out2 : ∀ p, (p = 2 ∨ p = 12) → ∀ y, y < 65 → ¬ (4 ≤ y ∧ y ≤ 7 ∨ 20 ≤ y ∧ y ≤ 39) → ci p y < 24 ∨ 37 < ci p y := by
  intro p hp
  rcases hp with rfl | rfl <;> decide +kernel
theorem kx_cx {p y : Nat} (hp : p = 2 ∨ p = 12) (h : y < 65) (h2 : 4 ≤ y ∧ y ≤ 7 ∨ 20 ≤ y ∧ y ≤ 39) (j : Nat) : cx (kx y) j = cx y j := by
  obtain ⟨-, -, -, e1, e2⟩ := kx_t p hp y h h2
  unfold cx
  rw [e1, e2]
theorem resA_l {A : aS} {y j : Nat} (h : 4 ≤ y ∧ y ≤ 7 ∨ 20 ≤ y ∧ y ≤ 39) : resA A y j = A (kx y) j := by
  unfold resA
  rw [if_pos (by omega)]
theorem resA_o {A : aS} {y j : Nat} (h : ¬ (4 ≤ y ∧ y ≤ 7 ∨ 20 ≤ y ∧ y ≤ 39)) (h2 : y ≠ 65) : resA A y j = A y j := by
  unfold resA
  rw [if_neg (by omega)]
theorem wf_res {A : aS} (h : wf A) (h8 : A 8 0 = 1) : wf (resA A) := by
  obtain ⟨g1, g2, g3⟩ := h
  have g4 := g3 h8
  have hP : PW (resA A) := g1
  have hL : LW (resA A) (resA A) := g4
  have hK : LW (resA A) (kA (resA A)) := g4
  exact ⟨hP, hL, fun _ => hK⟩
theorem c_res {p : Nat} {A : aS} {S : z_St} (h : CI p A S) (hw : wf A) (h8 : A 8 0 = 1) : ∃ S1, z_ew 1000 98 [.ref 0] S = some (.inl (some (.int (iI 1))), S1) ∧ CI p (resA A) S1 ∧ fC S S1 := by
  have hk := hw.2.2 h8
  have h4 : 0 ≤ A 41 0 ∧ A 41 0 ≤ 200 := hk.1
  have h6 : 0 ≤ A 43 0 ∧ A 43 0 ≤ 24 := hk.2.2.1
  obtain ⟨n, hn⟩ : ∃ n : Nat, A 41 0 = n := ⟨(A 41 0).toNat, by omega⟩
  obtain ⟨l, hl⟩ : ∃ l : Nat, A 43 0 = l := ⟨(A 43 0).toNat, by omega⟩
  have c41 : S.1 38 0 = iI (A 41 0) := h.2.2.2.1 41 (by decide) 0 (by show 0 < (if A 8 0 = 0 then 0 else 1); rw [h8]; decide)
  have c43 : S.1 38 10 = iI (A 43 0) := h.2.2.2.1 43 (by decide) 0 (by show 0 < (if A 8 0 = 0 then 0 else 1); rw [h8]; decide)
  have e := cpb_e (d := 998) (n := n) (l := l) (S := S) (by rw [c41, hn]) (by omega) (by rw [c43, hl]) (by omega)
  refine ⟨cpb n l S, ?_, ?_, fun a ha => cpb_o (n := n) (l := l) (by omega)⟩
  · rw [zx_98 999, c_8 h, h8, if_neg n10, e, clv_v, zq_98_18, (cpb_o (by omega)).1, c_8 h, h8, rb_1, cond_true]
  · obtain ⟨q1, q2, q3, q4, q5, q6⟩ := h
    refine ⟨q1, ?_, ?_, ?_, ?_, ?_⟩
    · rw [(cpb_o (by omega)).1]
      exact q2
    · rw [(cpb_o (by omega)).1]
      exact q3
    · intro y hy j hj
      by_cases g : 4 ≤ y ∧ y ≤ 7 ∨ 20 ≤ y ∧ y ≤ 39
      · obtain ⟨u1, u2, u3, -, -⟩ := kx_t p q1 y hy g
        rw [res_l h8 y g] at hj
        have e4 := q4 (kx y) u1 j hj
        rw [u3, kx_cx q1 hy g] at e4
        rw [cpb_x hk h8 hn hl g hj, e4, resA_l g, ce_id (by omega) (by omega), ce_id (by omega) (by omega)]
      · rw [res_o y hy g] at hj
        rw [(cpb_o (ci_out2 p q1 y hy g)).1, resA_o g (by omega)]
        exact q4 y hy j hj
    · intro b r hb hr q hq
      rw [cpb_l (by omega)]
      exact q6 h8 b r hb hr q hq
    · intro _ b r hb hr q hq
      rw [(cpb_o (by omega)).2]
      exact q6 h8 b r hb hr q hq
def kps (S : z_St) (r o i N : Nat) : z_St := (fun a j => if a = 70 ∧ j = 70 then iI ((o + N : Nat) : Int) else if a = 114 ∧ o + i ≤ j ∧ j < o + N then S.1 r (j - o) else S.1 a j, S.2)
theorem kps_70 {S : z_St} {r o i N : Nat} : (kps S r o i N).1 70 70 = iI ((o + N : Nat) : Int) := by simp [kps]
theorem kps_n {S : z_St} {r o i N a j : Nat} (h : a ≠ 114 ∨ j < o + i ∨ o + N ≤ j) (h2 : a ≠ 70 ∨ j ≠ 70) : (kps S r o i N).1 a j = S.1 a j := by
  unfold kps
  dsimp only
  rw [if_neg (by omega), if_neg (by omega)]
theorem kps_y {S : z_St} {r o N j : Nat} (h : j < N) : (kps S r o 0 N).1 114 (o + j) = S.1 r j := by
  unfold kps
  dsimp only
  rw [if_neg (by omega), if_pos (by omega), Nat.add_sub_cancel_left]
theorem kps_s {S : z_St} {r o i N : Nat} (h : i < N) (hr : r ≠ 114) : kps (z_w1 S.1 114 (o + i) (S.1 r i), S.2) r o (i + 1) N = kps S r o i N := by
  refine Prod.ext ?_ rfl
  funext a j
  unfold kps
  dsimp only
  by_cases h1 : a = 70 ∧ j = 70
  · rw [if_pos h1, if_pos h1]
  · rw [if_neg h1, if_neg h1]
    by_cases h2 : a = 114 ∧ o + i ≤ j ∧ j < o + N
    · rw [if_pos h2]
      by_cases h3 : j = o + i
      · rw [if_neg (by omega), z_w1_r, if_pos ⟨h2.1, h3⟩, h3, Nat.add_sub_cancel_left]
      · rw [if_pos (by omega), z_w1_r, if_neg (by omega)]
    · rw [if_neg h2, if_neg (by omega), z_w1_r, if_neg (by omega)]
theorem m_kp {r N o : Nat} (h1 : Nat.beq r 1100 = false) (h2 : z_at r = 1) (h3 : z_ln r = N) (hr : r ≠ 114) (ho : o + N ≤ 1644) (d z : Nat) : ∀ (k i n : Nat) (S : z_St), i + k = N → k + 2 ≤ n → S.1 70 70 = iI (o : Int) → z_R181 d n 2 z [some (.ref 70), some (.ref r), some (.int (iI i))] [] S = some (.inl none, kps S r o i N) := by
  intro k
  induction k with
  | zero =>
    intro i n S hi hn hS
    obtain ⟨n, rfl⟩ : ∃ m, n = m + 2 := ⟨n - 2, by omega⟩
    have e : i = N := by omega
    subst e
    rw [zq_181_2, h1, cond_false]
    refine (cond_t (by rw [h2]; rfl)).trans ?_
    rw [h3, iI_n i, if_pos (by rw [iI_le (by omega) (by omega) (by omega) (by omega)]; omega), zq_181_28, h1, cond_false]
    refine (cond_t (by rw [h2]; rfl)).trans ?_
    rw [h3, hS, iI_n i, iI_add]
    congr 2
    refine Prod.ext ?_ rfl
    funext a j
    dsimp only
    rw [z_w1_r]
    by_cases g : a = 70 ∧ j = 70
    · rw [if_pos g, g.1, g.2, kps_70]
      congr 1
    · rw [if_neg g, kps_n (by omega) (by omega)]
  | succ k ih =>
    intro i n S hi hn hS
    obtain ⟨n, rfl⟩ : ∃ m, n = m + 2 := ⟨n - 2, by omega⟩
    rw [zq_181_2, h1, cond_false]
    refine (cond_t (by rw [h2]; rfl)).trans ?_
    have e1 : (o : Int) + (i : Int) = ((o + i : Nat) : Int) := by omega
    have e2 : (i : Int) + ((1 : Nat) : Int) = ((i + 1 : Nat) : Int) := by omega
    rw [h3, iI_n N, if_neg (by rw [iI_le (by omega) (by omega) (by omega) (by omega)]; omega)]
    refine (cond_t (by rw [h2, ixN (by omega) (by omega)]; rfl)).trans ?_
    rw [hS, iI_add, e1]
    refine (cond_t (ixN (by omega) (by decide))).trans ?_
    rw [tN (by omega), tN (by omega), iI_n 1, iI_add, e2, ih (i + 1) (n + 1) _ (by omega) (by omega) (by dsimp only; rw [z_w1_r, if_neg (by omega)]; exact hS), kps_s (by omega) hr]
theorem kpE {r N o d : Nat} {S : z_St} (h1 : Nat.beq r 1100 = false) (h2 : z_at r = 1) (h3 : z_ln r = N) (hr : r ≠ 114) (ho : o + N ≤ 1644) (hS : S.1 70 70 = iI (o : Int)) : z_ew (d + 1) 181 [.ref 70, .ref r] S = some (.inl none, kps S r o 0 N) := by
  rw [zx_181]
  exact m_kp h1 h2 h3 hr ho d 0 N 0 999999 S (by omega) (by omega) hS
def gbs (S : z_St) (r o i N : Nat) : z_St := (fun a j => if a = 70 ∧ j = 70 then iI ((o + N : Nat) : Int) else if a = r ∧ i ≤ j ∧ j < N then S.1 114 (o + j) else S.1 a j, S.2)
theorem gbs_70 {S : z_St} {r o i N : Nat} : (gbs S r o i N).1 70 70 = iI ((o + N : Nat) : Int) := by simp [gbs]
theorem gbs_n {S : z_St} {r o i N a j : Nat} (h : a ≠ r ∨ j < i ∨ N ≤ j) (h2 : a ≠ 70 ∨ j ≠ 70) : (gbs S r o i N).1 a j = S.1 a j := by
  unfold gbs
  dsimp only
  rw [if_neg (by omega), if_neg (by omega)]
theorem gbs_y {S : z_St} {r o N j : Nat} (h : j < N) (hr : r ≠ 70) : (gbs S r o 0 N).1 r j = S.1 114 (o + j) := by
  unfold gbs
  dsimp only
  rw [if_neg (by omega), if_pos (by omega)]
theorem gbs_s {S : z_St} {r o i N : Nat} (h : i < N) (hr : r ≠ 114) : gbs (z_w1 S.1 r i (S.1 114 (o + i)), S.2) r o (i + 1) N = gbs S r o i N := by
  refine Prod.ext ?_ rfl
  funext a j
  unfold gbs
  dsimp only
  by_cases h1 : a = 70 ∧ j = 70
  · rw [if_pos h1, if_pos h1]
  · rw [if_neg h1, if_neg h1]
    by_cases h2 : a = r ∧ i ≤ j ∧ j < N
    · rw [if_pos h2]
      by_cases h3 : j = i
      · rw [if_neg (by omega), z_w1_r, if_pos ⟨h2.1, h3⟩, h3]
      · rw [if_pos (by omega), z_w1_r, if_neg (by omega)]
    · rw [if_neg h2, if_neg (by omega), z_w1_r, if_neg (by omega)]
theorem m_gb {r N o : Nat} (h1 : Nat.beq r 1100 = false) (h2 : z_at r = 1) (h3 : z_ln r = N) (hr : r ≠ 114) (hr2 : r ≠ 70) (ho : o + N ≤ 1644) (d z : Nat) : ∀ (k i n : Nat) (S : z_St), i + k = N → k + 2 ≤ n → S.1 70 70 = iI (o : Int) → z_R182 d n 2 z [some (.ref 70), some (.ref r), some (.int (iI i))] [] S = some (.inl none, gbs S r o i N) := by
  intro k
  induction k with
  | zero =>
    intro i n S hi hn hS
    obtain ⟨n, rfl⟩ : ∃ m, n = m + 2 := ⟨n - 2, by omega⟩
    have e : i = N := by omega
    subst e
    rw [zq_182_2, h1, cond_false]
    refine (cond_t (by rw [h2]; rfl)).trans ?_
    rw [h3, iI_n i, if_pos (by rw [iI_le (by omega) (by omega) (by omega) (by omega)]; omega), zq_182_28, h1, cond_false]
    refine (cond_t (by rw [h2]; rfl)).trans ?_
    rw [h3, hS, iI_n i, iI_add]
    congr 2
    refine Prod.ext ?_ rfl
    funext a j
    dsimp only
    rw [z_w1_r]
    by_cases g : a = 70 ∧ j = 70
    · rw [if_pos g, g.1, g.2, gbs_70]
      congr 1
    · rw [if_neg g, gbs_n (by omega) (by omega)]
  | succ k ih =>
    intro i n S hi hn hS
    obtain ⟨n, rfl⟩ : ∃ m, n = m + 2 := ⟨n - 2, by omega⟩
    rw [zq_182_2, h1, cond_false]
    refine (cond_t (by rw [h2]; rfl)).trans ?_
    have e1 : (o : Int) + (i : Int) = ((o + i : Nat) : Int) := by omega
    have e2 : (i : Int) + ((1 : Nat) : Int) = ((i + 1 : Nat) : Int) := by omega
    rw [h3, iI_n N, if_neg (by rw [iI_le (by omega) (by omega) (by omega) (by omega)]; omega), hS, iI_add, e1]
    refine (cond_t (ixN (by omega) (by decide))).trans ?_
    refine (cond_t (by rw [h2, ixN (by omega) (by omega)]; rfl)).trans ?_
    rw [tN (by omega), tN (by omega), iI_n 1, iI_add, e2, ih (i + 1) (n + 1) _ (by omega) (by omega) (by dsimp only; rw [z_w1_r, if_neg (by omega)]; exact hS), gbs_s (by omega) hr]
theorem gbE {r N o d : Nat} {S : z_St} (h1 : Nat.beq r 1100 = false) (h2 : z_at r = 1) (h3 : z_ln r = N) (hr : r ≠ 114) (hr2 : r ≠ 70) (ho : o + N ≤ 1644) (hS : S.1 70 70 = iI (o : Int)) : z_ew (d + 1) 182 [.ref 70, .ref r] S = some (.inl none, gbs S r o 0 N) := by
  rw [zx_182]
  exact m_gb h1 h2 h3 hr hr2 ho d 0 N 0 999999 S (by omega) (by omega) hS
def gl : List Nat := [86, 87, 83, 84, 85, 89, 90, 91, 92, 93, 94, 97, 98, 99, 100, 107, 108, 109, 112, 80]
def kpT (S : z_St) : z_St := (kps (kps (kps (kps (kps (kps (kps (kps (kps (kps (kps (kps (kps (kps (kps (kps (kps (kps (kps (kps S 86 4 0 10) 87 14 0 8) 83 22 0 80) 84 102 0 80) 85 182 0 80) 89 262 0 200) 90 462 0 200) 91 662 0 200) 92 862 0 200) 93 1062 0 200) 94 1262 0 200) 97 1462 0 24) 98 1486 0 24) 99 1510 0 24) 100 1534 0 24) 107 1558 0 7) 108 1565 0 7) 109 1572 0 7) 112 1579 0 60) 80 1639 0 5)
theorem kpT_o {S : z_St} {a j : Nat} (h : a ≠ 114 ∨ j < 4) (h2 : a ≠ 70 ∨ j ≠ 70) : (kpT S).1 a j = S.1 a j := by
  unfold kpT
  rw [kps_n (by omega) h2, kps_n (by omega) h2, kps_n (by omega) h2, kps_n (by omega) h2, kps_n (by omega) h2, kps_n (by omega) h2, kps_n (by omega) h2, kps_n (by omega) h2, kps_n (by omega) h2, kps_n (by omega) h2, kps_n (by omega) h2, kps_n (by omega) h2, kps_n (by omega) h2, kps_n (by omega) h2, kps_n (by omega) h2, kps_n (by omega) h2, kps_n (by omega) h2, kps_n (by omega) h2, kps_n (by omega) h2, kps_n (by omega) h2]
theorem kpT_86 {S : z_St} {j : Nat} (h : j < 10) : (kpT S).1 114 (4 + j) = S.1 86 j := by
  unfold kpT
  rw [kps_n (by omega) (by omega), kps_n (by omega) (by omega), kps_n (by omega) (by omega), kps_n (by omega) (by omega), kps_n (by omega) (by omega), kps_n (by omega) (by omega), kps_n (by omega) (by omega), kps_n (by omega) (by omega), kps_n (by omega) (by omega), kps_n (by omega) (by omega), kps_n (by omega) (by omega), kps_n (by omega) (by omega), kps_n (by omega) (by omega), kps_n (by omega) (by omega), kps_n (by omega) (by omega), kps_n (by omega) (by omega), kps_n (by omega) (by omega), kps_n (by omega) (by omega), kps_n (by omega) (by omega), kps_y h]
theorem kpT_87 {S : z_St} {j : Nat} (h : j < 8) : (kpT S).1 114 (14 + j) = S.1 87 j := by
  unfold kpT
  rw [kps_n (by omega) (by omega), kps_n (by omega) (by omega), kps_n (by omega) (by omega), kps_n (by omega) (by omega), kps_n (by omega) (by omega), kps_n (by omega) (by omega), kps_n (by omega) (by omega), kps_n (by omega) (by omega), kps_n (by omega) (by omega), kps_n (by omega) (by omega), kps_n (by omega) (by omega), kps_n (by omega) (by omega), kps_n (by omega) (by omega), kps_n (by omega) (by omega), kps_n (by omega) (by omega), kps_n (by omega) (by omega), kps_n (by omega) (by omega), kps_n (by omega) (by omega), kps_y h, kps_n (by omega) (by omega)]
theorem kpT_83 {S : z_St} {j : Nat} (h : j < 80) : (kpT S).1 114 (22 + j) = S.1 83 j := by
  unfold kpT
  rw [kps_n (by omega) (by omega), kps_n (by omega) (by omega), kps_n (by omega) (by omega), kps_n (by omega) (by omega), kps_n (by omega) (by omega), kps_n (by omega) (by omega), kps_n (by omega) (by omega), kps_n (by omega) (by omega), kps_n (by omega) (by omega), kps_n (by omega) (by omega), kps_n (by omega) (by omega), kps_n (by omega) (by omega), kps_n (by omega) (by omega), kps_n (by omega) (by omega), kps_n (by omega) (by omega), kps_n (by omega) (by omega), kps_n (by omega) (by omega), kps_y h, kps_n (by omega) (by omega), kps_n (by omega) (by omega)]
theorem kpT_84 {S : z_St} {j : Nat} (h : j < 80) : (kpT S).1 114 (102 + j) = S.1 84 j := by
  unfold kpT
  rw [kps_n (by omega) (by omega), kps_n (by omega) (by omega), kps_n (by omega) (by omega), kps_n (by omega) (by omega), kps_n (by omega) (by omega), kps_n (by omega) (by omega), kps_n (by omega) (by omega), kps_n (by omega) (by omega), kps_n (by omega) (by omega), kps_n (by omega) (by omega), kps_n (by omega) (by omega), kps_n (by omega) (by omega), kps_n (by omega) (by omega), kps_n (by omega) (by omega), kps_n (by omega) (by omega), kps_n (by omega) (by omega), kps_y h, kps_n (by omega) (by omega), kps_n (by omega) (by omega), kps_n (by omega) (by omega)]
theorem kpT_85 {S : z_St} {j : Nat} (h : j < 80) : (kpT S).1 114 (182 + j) = S.1 85 j := by
  unfold kpT
  rw [kps_n (by omega) (by omega), kps_n (by omega) (by omega), kps_n (by omega) (by omega), kps_n (by omega) (by omega), kps_n (by omega) (by omega), kps_n (by omega) (by omega), kps_n (by omega) (by omega), kps_n (by omega) (by omega), kps_n (by omega) (by omega), kps_n (by omega) (by omega), kps_n (by omega) (by omega), kps_n (by omega) (by omega), kps_n (by omega) (by omega), kps_n (by omega) (by omega), kps_n (by omega) (by omega), kps_y h, kps_n (by omega) (by omega), kps_n (by omega) (by omega), kps_n (by omega) (by omega), kps_n (by omega) (by omega)]
theorem kpT_89 {S : z_St} {j : Nat} (h : j < 200) : (kpT S).1 114 (262 + j) = S.1 89 j := by
  unfold kpT
  rw [kps_n (by omega) (by omega), kps_n (by omega) (by omega), kps_n (by omega) (by omega), kps_n (by omega) (by omega), kps_n (by omega) (by omega), kps_n (by omega) (by omega), kps_n (by omega) (by omega), kps_n (by omega) (by omega), kps_n (by omega) (by omega), kps_n (by omega) (by omega), kps_n (by omega) (by omega), kps_n (by omega) (by omega), kps_n (by omega) (by omega), kps_n (by omega) (by omega), kps_y h, kps_n (by omega) (by omega), kps_n (by omega) (by omega), kps_n (by omega) (by omega), kps_n (by omega) (by omega), kps_n (by omega) (by omega)]
theorem kpT_90 {S : z_St} {j : Nat} (h : j < 200) : (kpT S).1 114 (462 + j) = S.1 90 j := by
  unfold kpT
  rw [kps_n (by omega) (by omega), kps_n (by omega) (by omega), kps_n (by omega) (by omega), kps_n (by omega) (by omega), kps_n (by omega) (by omega), kps_n (by omega) (by omega), kps_n (by omega) (by omega), kps_n (by omega) (by omega), kps_n (by omega) (by omega), kps_n (by omega) (by omega), kps_n (by omega) (by omega), kps_n (by omega) (by omega), kps_n (by omega) (by omega), kps_y h, kps_n (by omega) (by omega), kps_n (by omega) (by omega), kps_n (by omega) (by omega), kps_n (by omega) (by omega), kps_n (by omega) (by omega), kps_n (by omega) (by omega)]
theorem kpT_91 {S : z_St} {j : Nat} (h : j < 200) : (kpT S).1 114 (662 + j) = S.1 91 j := by
  unfold kpT
  rw [kps_n (by omega) (by omega), kps_n (by omega) (by omega), kps_n (by omega) (by omega), kps_n (by omega) (by omega), kps_n (by omega) (by omega), kps_n (by omega) (by omega), kps_n (by omega) (by omega), kps_n (by omega) (by omega), kps_n (by omega) (by omega), kps_n (by omega) (by omega), kps_n (by omega) (by omega), kps_n (by omega) (by omega), kps_y h, kps_n (by omega) (by omega), kps_n (by omega) (by omega), kps_n (by omega) (by omega), kps_n (by omega) (by omega), kps_n (by omega) (by omega), kps_n (by omega) (by omega), kps_n (by omega) (by omega)]
theorem kpT_92 {S : z_St} {j : Nat} (h : j < 200) : (kpT S).1 114 (862 + j) = S.1 92 j := by
  unfold kpT
  rw [kps_n (by omega) (by omega), kps_n (by omega) (by omega), kps_n (by omega) (by omega), kps_n (by omega) (by omega), kps_n (by omega) (by omega), kps_n (by omega) (by omega), kps_n (by omega) (by omega), kps_n (by omega) (by omega), kps_n (by omega) (by omega), kps_n (by omega) (by omega), kps_n (by omega) (by omega), kps_y h, kps_n (by omega) (by omega), kps_n (by omega) (by omega), kps_n (by omega) (by omega), kps_n (by omega) (by omega), kps_n (by omega) (by omega), kps_n (by omega) (by omega), kps_n (by omega) (by omega), kps_n (by omega) (by omega)]
theorem kpT_93 {S : z_St} {j : Nat} (h : j < 200) : (kpT S).1 114 (1062 + j) = S.1 93 j := by
  unfold kpT
  rw [kps_n (by omega) (by omega), kps_n (by omega) (by omega), kps_n (by omega) (by omega), kps_n (by omega) (by omega), kps_n (by omega) (by omega), kps_n (by omega) (by omega), kps_n (by omega) (by omega), kps_n (by omega) (by omega), kps_n (by omega) (by omega), kps_n (by omega) (by omega), kps_y h, kps_n (by omega) (by omega), kps_n (by omega) (by omega), kps_n (by omega) (by omega), kps_n (by omega) (by omega), kps_n (by omega) (by omega), kps_n (by omega) (by omega), kps_n (by omega) (by omega), kps_n (by omega) (by omega), kps_n (by omega) (by omega)]
theorem kpT_94 {S : z_St} {j : Nat} (h : j < 200) : (kpT S).1 114 (1262 + j) = S.1 94 j := by
  unfold kpT
  rw [kps_n (by omega) (by omega), kps_n (by omega) (by omega), kps_n (by omega) (by omega), kps_n (by omega) (by omega), kps_n (by omega) (by omega), kps_n (by omega) (by omega), kps_n (by omega) (by omega), kps_n (by omega) (by omega), kps_n (by omega) (by omega), kps_y h, kps_n (by omega) (by omega), kps_n (by omega) (by omega), kps_n (by omega) (by omega), kps_n (by omega) (by omega), kps_n (by omega) (by omega), kps_n (by omega) (by omega), kps_n (by omega) (by omega), kps_n (by omega) (by omega), kps_n (by omega) (by omega), kps_n (by omega) (by omega)]
theorem kpT_97 {S : z_St} {j : Nat} (h : j < 24) : (kpT S).1 114 (1462 + j) = S.1 97 j := by
  unfold kpT
  rw [kps_n (by omega) (by omega), kps_n (by omega) (by omega), kps_n (by omega) (by omega), kps_n (by omega) (by omega), kps_n (by omega) (by omega), kps_n (by omega) (by omega), kps_n (by omega) (by omega), kps_n (by omega) (by omega), kps_y h, kps_n (by omega) (by omega), kps_n (by omega) (by omega), kps_n (by omega) (by omega), kps_n (by omega) (by omega), kps_n (by omega) (by omega), kps_n (by omega) (by omega), kps_n (by omega) (by omega), kps_n (by omega) (by omega), kps_n (by omega) (by omega), kps_n (by omega) (by omega), kps_n (by omega) (by omega)]
theorem kpT_98 {S : z_St} {j : Nat} (h : j < 24) : (kpT S).1 114 (1486 + j) = S.1 98 j := by
  unfold kpT
  rw [kps_n (by omega) (by omega), kps_n (by omega) (by omega), kps_n (by omega) (by omega), kps_n (by omega) (by omega), kps_n (by omega) (by omega), kps_n (by omega) (by omega), kps_n (by omega) (by omega), kps_y h, kps_n (by omega) (by omega), kps_n (by omega) (by omega), kps_n (by omega) (by omega), kps_n (by omega) (by omega), kps_n (by omega) (by omega), kps_n (by omega) (by omega), kps_n (by omega) (by omega), kps_n (by omega) (by omega), kps_n (by omega) (by omega), kps_n (by omega) (by omega), kps_n (by omega) (by omega), kps_n (by omega) (by omega)]
theorem kpT_99 {S : z_St} {j : Nat} (h : j < 24) : (kpT S).1 114 (1510 + j) = S.1 99 j := by
  unfold kpT
  rw [kps_n (by omega) (by omega), kps_n (by omega) (by omega), kps_n (by omega) (by omega), kps_n (by omega) (by omega), kps_n (by omega) (by omega), kps_n (by omega) (by omega), kps_y h, kps_n (by omega) (by omega), kps_n (by omega) (by omega), kps_n (by omega) (by omega), kps_n (by omega) (by omega), kps_n (by omega) (by omega), kps_n (by omega) (by omega), kps_n (by omega) (by omega), kps_n (by omega) (by omega), kps_n (by omega) (by omega), kps_n (by omega) (by omega), kps_n (by omega) (by omega), kps_n (by omega) (by omega), kps_n (by omega) (by omega)]
theorem kpT_100 {S : z_St} {j : Nat} (h : j < 24) : (kpT S).1 114 (1534 + j) = S.1 100 j := by
  unfold kpT
  rw [kps_n (by omega) (by omega), kps_n (by omega) (by omega), kps_n (by omega) (by omega), kps_n (by omega) (by omega), kps_n (by omega) (by omega), kps_y h, kps_n (by omega) (by omega), kps_n (by omega) (by omega), kps_n (by omega) (by omega), kps_n (by omega) (by omega), kps_n (by omega) (by omega), kps_n (by omega) (by omega), kps_n (by omega) (by omega), kps_n (by omega) (by omega), kps_n (by omega) (by omega), kps_n (by omega) (by omega), kps_n (by omega) (by omega), kps_n (by omega) (by omega), kps_n (by omega) (by omega), kps_n (by omega) (by omega)]
theorem kpT_108 {S : z_St} {j : Nat} (h : j < 7) : (kpT S).1 114 (1565 + j) = S.1 108 j := by
  unfold kpT
  rw [kps_n (by omega) (by omega), kps_n (by omega) (by omega), kps_n (by omega) (by omega), kps_y h, kps_n (by omega) (by omega), kps_n (by omega) (by omega), kps_n (by omega) (by omega), kps_n (by omega) (by omega), kps_n (by omega) (by omega), kps_n (by omega) (by omega), kps_n (by omega) (by omega), kps_n (by omega) (by omega), kps_n (by omega) (by omega), kps_n (by omega) (by omega), kps_n (by omega) (by omega), kps_n (by omega) (by omega), kps_n (by omega) (by omega), kps_n (by omega) (by omega), kps_n (by omega) (by omega), kps_n (by omega) (by omega)]
theorem kpT_109 {S : z_St} {j : Nat} (h : j < 7) : (kpT S).1 114 (1572 + j) = S.1 109 j := by
  unfold kpT
  rw [kps_n (by omega) (by omega), kps_n (by omega) (by omega), kps_y h, kps_n (by omega) (by omega), kps_n (by omega) (by omega), kps_n (by omega) (by omega), kps_n (by omega) (by omega), kps_n (by omega) (by omega), kps_n (by omega) (by omega), kps_n (by omega) (by omega), kps_n (by omega) (by omega), kps_n (by omega) (by omega), kps_n (by omega) (by omega), kps_n (by omega) (by omega), kps_n (by omega) (by omega), kps_n (by omega) (by omega), kps_n (by omega) (by omega), kps_n (by omega) (by omega), kps_n (by omega) (by omega), kps_n (by omega) (by omega)]
theorem kpT_112 {S : z_St} {j : Nat} (h : j < 60) : (kpT S).1 114 (1579 + j) = S.1 112 j := by
  unfold kpT
  rw [kps_n (by omega) (by omega), kps_y h, kps_n (by omega) (by omega), kps_n (by omega) (by omega), kps_n (by omega) (by omega), kps_n (by omega) (by omega), kps_n (by omega) (by omega), kps_n (by omega) (by omega), kps_n (by omega) (by omega), kps_n (by omega) (by omega), kps_n (by omega) (by omega), kps_n (by omega) (by omega), kps_n (by omega) (by omega), kps_n (by omega) (by omega), kps_n (by omega) (by omega), kps_n (by omega) (by omega), kps_n (by omega) (by omega), kps_n (by omega) (by omega), kps_n (by omega) (by omega), kps_n (by omega) (by omega)]
theorem kpT_80 {S : z_St} {j : Nat} (h : j < 5) : (kpT S).1 114 (1639 + j) = S.1 80 j := by
  unfold kpT
  rw [kps_y h, kps_n (by omega) (by omega), kps_n (by omega) (by omega), kps_n (by omega) (by omega), kps_n (by omega) (by omega), kps_n (by omega) (by omega), kps_n (by omega) (by omega), kps_n (by omega) (by omega), kps_n (by omega) (by omega), kps_n (by omega) (by omega), kps_n (by omega) (by omega), kps_n (by omega) (by omega), kps_n (by omega) (by omega), kps_n (by omega) (by omega), kps_n (by omega) (by omega), kps_n (by omega) (by omega), kps_n (by omega) (by omega), kps_n (by omega) (by omega), kps_n (by omega) (by omega), kps_n (by omega) (by omega)]
def gbT (S : z_St) : z_St := (gbs (gbs (gbs (gbs (gbs (gbs (gbs (gbs (gbs (gbs (gbs (gbs (gbs (gbs (gbs (gbs (gbs (gbs (gbs (gbs S 86 4 0 10) 87 14 0 8) 83 22 0 80) 84 102 0 80) 85 182 0 80) 89 262 0 200) 90 462 0 200) 91 662 0 200) 92 862 0 200) 93 1062 0 200) 94 1262 0 200) 97 1462 0 24) 98 1486 0 24) 99 1510 0 24) 100 1534 0 24) 107 1558 0 7) 108 1565 0 7) 109 1572 0 7) 112 1579 0 60) 80 1639 0 5)
theorem gl_out {a : Nat} (h : a < 70 ∨ 116 ≤ a) : List.elem a gl = false := by
  cases e : List.elem a gl with
  | false => rfl
  | true =>
    have := List.elem_iff.1 e
    simp [gl] at this
    omega
theorem gbT_o {S : z_St} {a j : Nat} (h : List.elem a gl = false) (h2 : a ≠ 70 ∨ j ≠ 70) : (gbT S).1 a j = S.1 a j := by
  have hn : ∀ r, List.elem r gl = true → a ≠ r := fun r hr e => by rw [e, hr] at h; cases h
  unfold gbT
  rw [gbs_n (Or.inl (hn 80 rfl)) h2, gbs_n (Or.inl (hn 112 rfl)) h2, gbs_n (Or.inl (hn 109 rfl)) h2, gbs_n (Or.inl (hn 108 rfl)) h2, gbs_n (Or.inl (hn 107 rfl)) h2, gbs_n (Or.inl (hn 100 rfl)) h2, gbs_n (Or.inl (hn 99 rfl)) h2, gbs_n (Or.inl (hn 98 rfl)) h2, gbs_n (Or.inl (hn 97 rfl)) h2, gbs_n (Or.inl (hn 94 rfl)) h2, gbs_n (Or.inl (hn 93 rfl)) h2, gbs_n (Or.inl (hn 92 rfl)) h2, gbs_n (Or.inl (hn 91 rfl)) h2, gbs_n (Or.inl (hn 90 rfl)) h2, gbs_n (Or.inl (hn 89 rfl)) h2, gbs_n (Or.inl (hn 85 rfl)) h2, gbs_n (Or.inl (hn 84 rfl)) h2, gbs_n (Or.inl (hn 83 rfl)) h2, gbs_n (Or.inl (hn 87 rfl)) h2, gbs_n (Or.inl (hn 86 rfl)) h2]
theorem gbT_86 {S : z_St} {j : Nat} (h : j < 10) : (gbT S).1 86 j = S.1 114 (4 + j) := by
  unfold gbT
  rw [gbs_n (by omega) (by omega), gbs_n (by omega) (by omega), gbs_n (by omega) (by omega), gbs_n (by omega) (by omega), gbs_n (by omega) (by omega), gbs_n (by omega) (by omega), gbs_n (by omega) (by omega), gbs_n (by omega) (by omega), gbs_n (by omega) (by omega), gbs_n (by omega) (by omega), gbs_n (by omega) (by omega), gbs_n (by omega) (by omega), gbs_n (by omega) (by omega), gbs_n (by omega) (by omega), gbs_n (by omega) (by omega), gbs_n (by omega) (by omega), gbs_n (by omega) (by omega), gbs_n (by omega) (by omega), gbs_n (by omega) (by omega), gbs_y h (by decide)]
theorem gbT_87 {S : z_St} {j : Nat} (h : j < 8) : (gbT S).1 87 j = S.1 114 (14 + j) := by
  unfold gbT
  rw [gbs_n (by omega) (by omega), gbs_n (by omega) (by omega), gbs_n (by omega) (by omega), gbs_n (by omega) (by omega), gbs_n (by omega) (by omega), gbs_n (by omega) (by omega), gbs_n (by omega) (by omega), gbs_n (by omega) (by omega), gbs_n (by omega) (by omega), gbs_n (by omega) (by omega), gbs_n (by omega) (by omega), gbs_n (by omega) (by omega), gbs_n (by omega) (by omega), gbs_n (by omega) (by omega), gbs_n (by omega) (by omega), gbs_n (by omega) (by omega), gbs_n (by omega) (by omega), gbs_n (by omega) (by omega), gbs_y h (by decide), gbs_n (by omega) (by omega)]
theorem gbT_83 {S : z_St} {j : Nat} (h : j < 80) : (gbT S).1 83 j = S.1 114 (22 + j) := by
  unfold gbT
  rw [gbs_n (by omega) (by omega), gbs_n (by omega) (by omega), gbs_n (by omega) (by omega), gbs_n (by omega) (by omega), gbs_n (by omega) (by omega), gbs_n (by omega) (by omega), gbs_n (by omega) (by omega), gbs_n (by omega) (by omega), gbs_n (by omega) (by omega), gbs_n (by omega) (by omega), gbs_n (by omega) (by omega), gbs_n (by omega) (by omega), gbs_n (by omega) (by omega), gbs_n (by omega) (by omega), gbs_n (by omega) (by omega), gbs_n (by omega) (by omega), gbs_n (by omega) (by omega), gbs_y h (by decide), gbs_n (by omega) (by omega), gbs_n (by omega) (by omega)]
theorem gbT_84 {S : z_St} {j : Nat} (h : j < 80) : (gbT S).1 84 j = S.1 114 (102 + j) := by
  unfold gbT
  rw [gbs_n (by omega) (by omega), gbs_n (by omega) (by omega), gbs_n (by omega) (by omega), gbs_n (by omega) (by omega), gbs_n (by omega) (by omega), gbs_n (by omega) (by omega), gbs_n (by omega) (by omega), gbs_n (by omega) (by omega), gbs_n (by omega) (by omega), gbs_n (by omega) (by omega), gbs_n (by omega) (by omega), gbs_n (by omega) (by omega), gbs_n (by omega) (by omega), gbs_n (by omega) (by omega), gbs_n (by omega) (by omega), gbs_n (by omega) (by omega), gbs_y h (by decide), gbs_n (by omega) (by omega), gbs_n (by omega) (by omega), gbs_n (by omega) (by omega)]
theorem gbT_85 {S : z_St} {j : Nat} (h : j < 80) : (gbT S).1 85 j = S.1 114 (182 + j) := by
  unfold gbT
  rw [gbs_n (by omega) (by omega), gbs_n (by omega) (by omega), gbs_n (by omega) (by omega), gbs_n (by omega) (by omega), gbs_n (by omega) (by omega), gbs_n (by omega) (by omega), gbs_n (by omega) (by omega), gbs_n (by omega) (by omega), gbs_n (by omega) (by omega), gbs_n (by omega) (by omega), gbs_n (by omega) (by omega), gbs_n (by omega) (by omega), gbs_n (by omega) (by omega), gbs_n (by omega) (by omega), gbs_n (by omega) (by omega), gbs_y h (by decide), gbs_n (by omega) (by omega), gbs_n (by omega) (by omega), gbs_n (by omega) (by omega), gbs_n (by omega) (by omega)]
theorem gbT_89 {S : z_St} {j : Nat} (h : j < 200) : (gbT S).1 89 j = S.1 114 (262 + j) := by
  unfold gbT
  rw [gbs_n (by omega) (by omega), gbs_n (by omega) (by omega), gbs_n (by omega) (by omega), gbs_n (by omega) (by omega), gbs_n (by omega) (by omega), gbs_n (by omega) (by omega), gbs_n (by omega) (by omega), gbs_n (by omega) (by omega), gbs_n (by omega) (by omega), gbs_n (by omega) (by omega), gbs_n (by omega) (by omega), gbs_n (by omega) (by omega), gbs_n (by omega) (by omega), gbs_n (by omega) (by omega), gbs_y h (by decide), gbs_n (by omega) (by omega), gbs_n (by omega) (by omega), gbs_n (by omega) (by omega), gbs_n (by omega) (by omega), gbs_n (by omega) (by omega)]
theorem gbT_90 {S : z_St} {j : Nat} (h : j < 200) : (gbT S).1 90 j = S.1 114 (462 + j) := by
  unfold gbT
  rw [gbs_n (by omega) (by omega), gbs_n (by omega) (by omega), gbs_n (by omega) (by omega), gbs_n (by omega) (by omega), gbs_n (by omega) (by omega), gbs_n (by omega) (by omega), gbs_n (by omega) (by omega), gbs_n (by omega) (by omega), gbs_n (by omega) (by omega), gbs_n (by omega) (by omega), gbs_n (by omega) (by omega), gbs_n (by omega) (by omega), gbs_n (by omega) (by omega), gbs_y h (by decide), gbs_n (by omega) (by omega), gbs_n (by omega) (by omega), gbs_n (by omega) (by omega), gbs_n (by omega) (by omega), gbs_n (by omega) (by omega), gbs_n (by omega) (by omega)]
theorem gbT_91 {S : z_St} {j : Nat} (h : j < 200) : (gbT S).1 91 j = S.1 114 (662 + j) := by
  unfold gbT
  rw [gbs_n (by omega) (by omega), gbs_n (by omega) (by omega), gbs_n (by omega) (by omega), gbs_n (by omega) (by omega), gbs_n (by omega) (by omega), gbs_n (by omega) (by omega), gbs_n (by omega) (by omega), gbs_n (by omega) (by omega), gbs_n (by omega) (by omega), gbs_n (by omega) (by omega), gbs_n (by omega) (by omega), gbs_n (by omega) (by omega), gbs_y h (by decide), gbs_n (by omega) (by omega), gbs_n (by omega) (by omega), gbs_n (by omega) (by omega), gbs_n (by omega) (by omega), gbs_n (by omega) (by omega), gbs_n (by omega) (by omega), gbs_n (by omega) (by omega)]
theorem gbT_92 {S : z_St} {j : Nat} (h : j < 200) : (gbT S).1 92 j = S.1 114 (862 + j) := by
  unfold gbT
  rw [gbs_n (by omega) (by omega), gbs_n (by omega) (by omega), gbs_n (by omega) (by omega), gbs_n (by omega) (by omega), gbs_n (by omega) (by omega), gbs_n (by omega) (by omega), gbs_n (by omega) (by omega), gbs_n (by omega) (by omega), gbs_n (by omega) (by omega), gbs_n (by omega) (by omega), gbs_n (by omega) (by omega), gbs_y h (by decide), gbs_n (by omega) (by omega), gbs_n (by omega) (by omega), gbs_n (by omega) (by omega), gbs_n (by omega) (by omega), gbs_n (by omega) (by omega), gbs_n (by omega) (by omega), gbs_n (by omega) (by omega), gbs_n (by omega) (by omega)]
theorem gbT_93 {S : z_St} {j : Nat} (h : j < 200) : (gbT S).1 93 j = S.1 114 (1062 + j) := by
  unfold gbT
  rw [gbs_n (by omega) (by omega), gbs_n (by omega) (by omega), gbs_n (by omega) (by omega), gbs_n (by omega) (by omega), gbs_n (by omega) (by omega), gbs_n (by omega) (by omega), gbs_n (by omega) (by omega), gbs_n (by omega) (by omega), gbs_n (by omega) (by omega), gbs_n (by omega) (by omega), gbs_y h (by decide), gbs_n (by omega) (by omega), gbs_n (by omega) (by omega), gbs_n (by omega) (by omega), gbs_n (by omega) (by omega), gbs_n (by omega) (by omega), gbs_n (by omega) (by omega), gbs_n (by omega) (by omega), gbs_n (by omega) (by omega), gbs_n (by omega) (by omega)]
theorem gbT_94 {S : z_St} {j : Nat} (h : j < 200) : (gbT S).1 94 j = S.1 114 (1262 + j) := by
  unfold gbT
  rw [gbs_n (by omega) (by omega), gbs_n (by omega) (by omega), gbs_n (by omega) (by omega), gbs_n (by omega) (by omega), gbs_n (by omega) (by omega), gbs_n (by omega) (by omega), gbs_n (by omega) (by omega), gbs_n (by omega) (by omega), gbs_n (by omega) (by omega), gbs_y h (by decide), gbs_n (by omega) (by omega), gbs_n (by omega) (by omega), gbs_n (by omega) (by omega), gbs_n (by omega) (by omega), gbs_n (by omega) (by omega), gbs_n (by omega) (by omega), gbs_n (by omega) (by omega), gbs_n (by omega) (by omega), gbs_n (by omega) (by omega), gbs_n (by omega) (by omega)]
theorem gbT_97 {S : z_St} {j : Nat} (h : j < 24) : (gbT S).1 97 j = S.1 114 (1462 + j) := by
  unfold gbT
  rw [gbs_n (by omega) (by omega), gbs_n (by omega) (by omega), gbs_n (by omega) (by omega), gbs_n (by omega) (by omega), gbs_n (by omega) (by omega), gbs_n (by omega) (by omega), gbs_n (by omega) (by omega), gbs_n (by omega) (by omega), gbs_y h (by decide), gbs_n (by omega) (by omega), gbs_n (by omega) (by omega), gbs_n (by omega) (by omega), gbs_n (by omega) (by omega), gbs_n (by omega) (by omega), gbs_n (by omega) (by omega), gbs_n (by omega) (by omega), gbs_n (by omega) (by omega), gbs_n (by omega) (by omega), gbs_n (by omega) (by omega), gbs_n (by omega) (by omega)]
theorem gbT_98 {S : z_St} {j : Nat} (h : j < 24) : (gbT S).1 98 j = S.1 114 (1486 + j) := by
  unfold gbT
  rw [gbs_n (by omega) (by omega), gbs_n (by omega) (by omega), gbs_n (by omega) (by omega), gbs_n (by omega) (by omega), gbs_n (by omega) (by omega), gbs_n (by omega) (by omega), gbs_n (by omega) (by omega), gbs_y h (by decide), gbs_n (by omega) (by omega), gbs_n (by omega) (by omega), gbs_n (by omega) (by omega), gbs_n (by omega) (by omega), gbs_n (by omega) (by omega), gbs_n (by omega) (by omega), gbs_n (by omega) (by omega), gbs_n (by omega) (by omega), gbs_n (by omega) (by omega), gbs_n (by omega) (by omega), gbs_n (by omega) (by omega), gbs_n (by omega) (by omega)]
theorem gbT_99 {S : z_St} {j : Nat} (h : j < 24) : (gbT S).1 99 j = S.1 114 (1510 + j) := by
  unfold gbT
  rw [gbs_n (by omega) (by omega), gbs_n (by omega) (by omega), gbs_n (by omega) (by omega), gbs_n (by omega) (by omega), gbs_n (by omega) (by omega), gbs_n (by omega) (by omega), gbs_y h (by decide), gbs_n (by omega) (by omega), gbs_n (by omega) (by omega), gbs_n (by omega) (by omega), gbs_n (by omega) (by omega), gbs_n (by omega) (by omega), gbs_n (by omega) (by omega), gbs_n (by omega) (by omega), gbs_n (by omega) (by omega), gbs_n (by omega) (by omega), gbs_n (by omega) (by omega), gbs_n (by omega) (by omega), gbs_n (by omega) (by omega), gbs_n (by omega) (by omega)]
theorem gbT_100 {S : z_St} {j : Nat} (h : j < 24) : (gbT S).1 100 j = S.1 114 (1534 + j) := by
  unfold gbT
  rw [gbs_n (by omega) (by omega), gbs_n (by omega) (by omega), gbs_n (by omega) (by omega), gbs_n (by omega) (by omega), gbs_n (by omega) (by omega), gbs_y h (by decide), gbs_n (by omega) (by omega), gbs_n (by omega) (by omega), gbs_n (by omega) (by omega), gbs_n (by omega) (by omega), gbs_n (by omega) (by omega), gbs_n (by omega) (by omega), gbs_n (by omega) (by omega), gbs_n (by omega) (by omega), gbs_n (by omega) (by omega), gbs_n (by omega) (by omega), gbs_n (by omega) (by omega), gbs_n (by omega) (by omega), gbs_n (by omega) (by omega), gbs_n (by omega) (by omega)]
theorem gbT_108 {S : z_St} {j : Nat} (h : j < 7) : (gbT S).1 108 j = S.1 114 (1565 + j) := by
  unfold gbT
  rw [gbs_n (by omega) (by omega), gbs_n (by omega) (by omega), gbs_n (by omega) (by omega), gbs_y h (by decide), gbs_n (by omega) (by omega), gbs_n (by omega) (by omega), gbs_n (by omega) (by omega), gbs_n (by omega) (by omega), gbs_n (by omega) (by omega), gbs_n (by omega) (by omega), gbs_n (by omega) (by omega), gbs_n (by omega) (by omega), gbs_n (by omega) (by omega), gbs_n (by omega) (by omega), gbs_n (by omega) (by omega), gbs_n (by omega) (by omega), gbs_n (by omega) (by omega), gbs_n (by omega) (by omega), gbs_n (by omega) (by omega), gbs_n (by omega) (by omega)]
theorem gbT_109 {S : z_St} {j : Nat} (h : j < 7) : (gbT S).1 109 j = S.1 114 (1572 + j) := by
  unfold gbT
  rw [gbs_n (by omega) (by omega), gbs_n (by omega) (by omega), gbs_y h (by decide), gbs_n (by omega) (by omega), gbs_n (by omega) (by omega), gbs_n (by omega) (by omega), gbs_n (by omega) (by omega), gbs_n (by omega) (by omega), gbs_n (by omega) (by omega), gbs_n (by omega) (by omega), gbs_n (by omega) (by omega), gbs_n (by omega) (by omega), gbs_n (by omega) (by omega), gbs_n (by omega) (by omega), gbs_n (by omega) (by omega), gbs_n (by omega) (by omega), gbs_n (by omega) (by omega), gbs_n (by omega) (by omega), gbs_n (by omega) (by omega), gbs_n (by omega) (by omega)]
theorem gbT_112 {S : z_St} {j : Nat} (h : j < 60) : (gbT S).1 112 j = S.1 114 (1579 + j) := by
  unfold gbT
  rw [gbs_n (by omega) (by omega), gbs_y h (by decide), gbs_n (by omega) (by omega), gbs_n (by omega) (by omega), gbs_n (by omega) (by omega), gbs_n (by omega) (by omega), gbs_n (by omega) (by omega), gbs_n (by omega) (by omega), gbs_n (by omega) (by omega), gbs_n (by omega) (by omega), gbs_n (by omega) (by omega), gbs_n (by omega) (by omega), gbs_n (by omega) (by omega), gbs_n (by omega) (by omega), gbs_n (by omega) (by omega), gbs_n (by omega) (by omega), gbs_n (by omega) (by omega), gbs_n (by omega) (by omega), gbs_n (by omega) (by omega), gbs_n (by omega) (by omega)]
theorem gbT_80 {S : z_St} {j : Nat} (h : j < 5) : (gbT S).1 80 j = S.1 114 (1639 + j) := by
  unfold gbT
  rw [gbs_y h (by decide), gbs_n (by omega) (by omega), gbs_n (by omega) (by omega), gbs_n (by omega) (by omega), gbs_n (by omega) (by omega), gbs_n (by omega) (by omega), gbs_n (by omega) (by omega), gbs_n (by omega) (by omega), gbs_n (by omega) (by omega), gbs_n (by omega) (by omega), gbs_n (by omega) (by omega), gbs_n (by omega) (by omega), gbs_n (by omega) (by omega), gbs_n (by omega) (by omega), gbs_n (by omega) (by omega), gbs_n (by omega) (by omega), gbs_n (by omega) (by omega), gbs_n (by omega) (by omega), gbs_n (by omega) (by omega), gbs_n (by omega) (by omega)]
theorem nb0 : vp_nar .boolean (iI 0) = iI 0 := by decide +kernel
theorem nb1 : vp_nar .boolean (iI 1) = iI 1 := by decide +kernel
def rds (S : z_St) (u v i : Nat) : z_St := (fun a j => if a = u ∧ i ≤ j ∧ j < 32080 then S.1 v j else S.1 a j, S.2)
theorem rds_s {S : z_St} {u v i : Nat} (h : i < 32080) (hr : v ≠ u) : rds (z_w1 S.1 u i (S.1 v i), S.2) u v (i + 1) = rds S u v i := by
  refine Prod.ext ?_ rfl
  funext a j
  unfold rds
  dsimp only
  by_cases h2 : a = u ∧ i ≤ j ∧ j < 32080
  · rw [if_pos h2]
    by_cases h3 : j = i
    · rw [if_neg (by omega), z_w1_r, if_pos ⟨h2.1, h3⟩, h3]
    · rw [if_pos (by omega), z_w1_r, if_neg (by omega)]
  · rw [if_neg h2, if_neg (by omega), z_w1_r, if_neg (by omega)]
theorem rds_e {S : z_St} {u v : Nat} : rds S u v 32080 = S := by
  refine Prod.ext ?_ rfl
  funext a j
  unfold rds
  dsimp only
  rw [if_neg (by omega)]
theorem m_rd183 (d z : Nat) : ∀ (k i n : Nat) (S : z_St), i + k = 32080 → k + 2 ≤ n → (∀ j, j < 32080 → S.1 88 j = iI 0 ∨ S.1 88 j = iI 1) → z_R183 d n 217 z [some (.ref 70), some (.int (iI i))] [] S = some (.inl none, rds S 115 88 i) := by
  intro k
  induction k with
  | zero =>
    intro i n S hi hn hS
    obtain ⟨n, rfl⟩ : ∃ m, n = m + 2 := ⟨n - 2, by omega⟩
    have e : i = 32080 := by omega
    subst e
    rw [zq_183_217, iI_n 32080, if_pos (by rw [iI_le (by decide) (by decide) (by decide) (by decide)]; decide), zq_183_244, rds_e]
  | succ k ih =>
    intro i n S hi hn hS
    obtain ⟨n, rfl⟩ : ∃ m, n = m + 2 := ⟨n - 2, by omega⟩
    have e2 : (i : Int) + ((1 : Nat) : Int) = ((i + 1 : Nat) : Int) := by omega
    have eb : vp_nar .boolean (S.1 88 i) = S.1 88 i := by
      rcases hS i (by omega) with g | g <;> rw [g]
      · exact nb0
      · exact nb1
    rw [zq_183_217, iI_n 32080, if_neg (by rw [iI_le (by decide) (by decide) (by omega) (by omega)]; omega), ixN (by omega) (by decide), cond_true, cond_true, tN (by omega), eb, iI_n 1, iI_add, e2, ih (i + 1) (n + 1) _ (by omega) (by omega) (fun j hj => by dsimp only; rw [z_w1_r, if_neg (by omega)]; exact hS j hj), rds_s (by omega) (by decide)]
theorem m_rd184 (d z : Nat) : ∀ (k i n : Nat) (S : z_St), i + k = 32080 → k + 2 ≤ n → (∀ j, j < 32080 → S.1 115 j = iI 0 ∨ S.1 115 j = iI 1) → z_R184 d n 221 z [some (.ref 70), some (.int (iI i))] [] S = some (.inl (some (.int (nI 1))), rds S 88 115 i) := by
  intro k
  induction k with
  | zero =>
    intro i n S hi hn hS
    obtain ⟨n, rfl⟩ : ∃ m, n = m + 2 := ⟨n - 2, by omega⟩
    have e : i = 32080 := by omega
    subst e
    rw [zq_184_221, iI_n 32080, if_pos (by rw [iI_le (by decide) (by decide) (by decide) (by decide)]; decide), zq_184_248, rds_e]
  | succ k ih =>
    intro i n S hi hn hS
    obtain ⟨n, rfl⟩ : ∃ m, n = m + 2 := ⟨n - 2, by omega⟩
    have e2 : (i : Int) + ((1 : Nat) : Int) = ((i + 1 : Nat) : Int) := by omega
    have eb : vp_nar .boolean (S.1 115 i) = S.1 115 i := by
      rcases hS i (by omega) with g | g <;> rw [g]
      · exact nb0
      · exact nb1
    rw [zq_184_221, iI_n 32080, if_neg (by rw [iI_le (by decide) (by decide) (by omega) (by omega)]; omega), ixN (by omega) (by decide), cond_true, cond_true, tN (by omega), eb, iI_n 1, iI_add, e2, ih (i + 1) (n + 1) _ (by omega) (by omega) (fun j hj => by dsimp only; rw [z_w1_r, if_neg (by omega)]; exact hS j hj), rds_s (by omega) (by decide)]
    rfl
theorem b65 {A B : aS} (h : LW A B) (hb : A 2 0 ≤ 10) (hr : A 3 0 ≤ 8) {j : Nat} (hj : j < 32080) : B 65 j = 0 ∨ B 65 j = 1 := by
  obtain ⟨-, -, -, -, -, -, -, a8, a9, -⟩ := h
  have e : 401 * (8 * (j / 401 / 8) + j / 401 % 8) + j % 401 = j := by omega
  by_cases q : A 2 0 ≤ ((j / 401 / 8 : Nat) : Int) ∨ A 3 0 ≤ ((j / 401 % 8 : Nat) : Int)
  · have := (a8 (j / 401 / 8) (j / 401 % 8) (by omega) (by omega) q).2 (j % 401) (by omega)
    rw [e] at this
    exact Or.inl this
  · have := (a9 (j / 401 / 8) (j / 401 % 8) (by omega) (by omega)).2 (j % 401) (by omega)
    rw [e] at this
    rcases this with g | g
    · exact Or.inl g
    · exact Or.inr g.1
theorem m_tab : ∀ y, y < 67 → (y < 41 ∨ y = 65) → mn y ≠ 0 → mi y ≠ 114 ∧ mi y ≠ 115 := by decide +kernel
theorem m_tab2 : ∀ y, y < 67 → mi y = 70 → mx y 0 ≠ 70 ∧ mx y 0 ≠ 1 ∧ (mx y 0 = 67 → y = 8) ∧ mn y ≤ 1 := by decide +kernel
def tb3 (y : Nat) : Bool := decide (4 ≤ y ∧ y ≤ 7 ∨ 20 ≤ y ∧ y ≤ 39 ∨ y = 65) || decide (mn y = 0) || (!(List.elem (mi y) gl) && !(decide (mi y = 88)) && (!(decide (mi y = 70)) || (!(decide (mx y 0 = 28)) && !(decide (mx y 0 = 29)) && !(decide (mx y 0 = 44)) && !(decide (mx y 0 = 57)))))
theorem tb3_ok : ∀ y, y < 67 → tb3 y = true := by decide +kernel
theorem m_tab3 {y : Nat} (hy : y < 67) (h1 : ¬ (4 ≤ y ∧ y ≤ 7 ∨ 20 ≤ y ∧ y ≤ 39 ∨ y = 65)) (h2 : mn y ≠ 0) : List.elem (mi y) gl = false ∧ mi y ≠ 88 ∧ (mi y = 70 → mx y 0 ≠ 28 ∧ mx y 0 ≠ 29 ∧ mx y 0 ≠ 44 ∧ mx y 0 ≠ 57) := by
  have h := tb3_ok y hy
  unfold tb3 at h
  rw [decide_eq_false h1, decide_eq_false h2, Bool.false_or, Bool.false_or, Bool.and_eq_true, Bool.and_eq_true] at h
  obtain ⟨⟨a1, a2⟩, a3⟩ := h
  refine ⟨by simpa using a1, by simpa using a2, fun e => ?_⟩
  rw [decide_eq_true e] at a3
  simpa [and_assoc] using a3
theorem m_img {A : aS} {S : z_St} (h : MI A S) (hw : wf A) : ∃ S1, z_ew 1000 183 [.ref 70] S = some (.inl none, S1) ∧ MI (imgA A) S1 ∧ fM S S1 := by
  have hb := hw.b
  have hr := hw.r
  obtain ⟨S0, hS0⟩ : ∃ S0 : z_St, S0 = (z_w1 (z_w1 (z_w1 (z_w1 (z_w1 (z_w1 (z_w1 S.1 70 1 (nI 0)) 70 67 (nI 1)) 114 0 (S.1 70 28)) 114 1 (S.1 70 29)) 114 2 (S.1 70 44)) 114 3 (S.1 70 57)) 70 70 (nI 4), S.2) := ⟨_, rfl⟩
  have i4 : S0.1 70 70 = iI ((4 : Nat) : Int) := by
    rw [hS0]
    dsimp only
    rw [z_w1_r, if_pos ⟨rfl, rfl⟩]
    rfl
  have s0 : ∀ a j, a ≠ 114 → (a ≠ 70 ∨ j ≠ 1 ∧ j ≠ 67 ∧ j ≠ 70) → S0.1 a j = S.1 a j := by
    intro a j h1 h2
    rw [hS0]
    dsimp only
    rw [z_w1_r, if_neg (by omega), z_w1_r, if_neg (by omega), z_w1_r, if_neg (by omega), z_w1_r, if_neg (by omega), z_w1_r, if_neg (by omega), z_w1_r, if_neg (by omega), z_w1_r, if_neg (by omega)]
  have s67 : S0.1 70 67 = iI 1 := by
    rw [hS0]
    dsimp only
    rw [z_w1_r, if_neg (by omega), z_w1_r, if_neg (by omega), z_w1_r, if_neg (by omega), z_w1_r, if_neg (by omega), z_w1_r, if_neg (by omega), z_w1_r, if_pos ⟨rfl, rfl⟩]
    rfl
  have s114 : S0.1 114 0 = S.1 70 28 ∧ S0.1 114 1 = S.1 70 29 ∧ S0.1 114 2 = S.1 70 44 ∧ S0.1 114 3 = S.1 70 57 := by
    rw [hS0]
    dsimp only
    refine ⟨?_, ?_, ?_, ?_⟩
    · rw [z_w1_r, if_neg (by omega), z_w1_r, if_neg (by omega), z_w1_r, if_neg (by omega), z_w1_r, if_neg (by omega), z_w1_r, if_pos ⟨rfl, rfl⟩]
    · rw [z_w1_r, if_neg (by omega), z_w1_r, if_neg (by omega), z_w1_r, if_neg (by omega), z_w1_r, if_pos ⟨rfl, rfl⟩]
    · rw [z_w1_r, if_neg (by omega), z_w1_r, if_neg (by omega), z_w1_r, if_pos ⟨rfl, rfl⟩]
    · rw [z_w1_r, if_neg (by omega), z_w1_r, if_pos ⟨rfl, rfl⟩]
  have t88 : ∀ j, j < 32080 → (kpT S0).1 88 j = iI (A 65 j) := fun j hj => by
    rw [kpT_o (by omega) (by omega), s0 88 j (by omega) (by omega)]
    exact m_65 h hj
  refine ⟨rds (kpT S0) 115 88 0, ?_, ⟨?_, ?_⟩, ?_⟩
  · rw [zx_183 999, ← hS0, kpE (r := 86) (N := 10) (o := 4) rfl rfl rfl (by decide) (by decide) i4, clv_v, kpE (r := 87) (N := 8) (o := 14) rfl rfl rfl (by decide) (by decide) kps_70, clv_v, kpE (r := 83) (N := 80) (o := 22) rfl rfl rfl (by decide) (by decide) kps_70, clv_v, kpE (r := 84) (N := 80) (o := 102) rfl rfl rfl (by decide) (by decide) kps_70, clv_v, kpE (r := 85) (N := 80) (o := 182) rfl rfl rfl (by decide) (by decide) kps_70, clv_v, kpE (r := 89) (N := 200) (o := 262) rfl rfl rfl (by decide) (by decide) kps_70, clv_v, kpE (r := 90) (N := 200) (o := 462) rfl rfl rfl (by decide) (by decide) kps_70, clv_v, kpE (r := 91) (N := 200) (o := 662) rfl rfl rfl (by decide) (by decide) kps_70, clv_v, kpE (r := 92) (N := 200) (o := 862) rfl rfl rfl (by decide) (by decide) kps_70, clv_v, kpE (r := 93) (N := 200) (o := 1062) rfl rfl rfl (by decide) (by decide) kps_70, clv_v, kpE (r := 94) (N := 200) (o := 1262) rfl rfl rfl (by decide) (by decide) kps_70, clv_v, kpE (r := 97) (N := 24) (o := 1462) rfl rfl rfl (by decide) (by decide) kps_70, clv_v, kpE (r := 98) (N := 24) (o := 1486) rfl rfl rfl (by decide) (by decide) kps_70, clv_v, kpE (r := 99) (N := 24) (o := 1510) rfl rfl rfl (by decide) (by decide) kps_70, clv_v, kpE (r := 100) (N := 24) (o := 1534) rfl rfl rfl (by decide) (by decide) kps_70, clv_v, kpE (r := 107) (N := 7) (o := 1558) rfl rfl rfl (by decide) (by decide) kps_70, clv_v, kpE (r := 108) (N := 7) (o := 1565) rfl rfl rfl (by decide) (by decide) kps_70, clv_v, kpE (r := 109) (N := 7) (o := 1572) rfl rfl rfl (by decide) (by decide) kps_70, clv_v, kpE (r := 112) (N := 60) (o := 1579) rfl rfl rfl (by decide) (by decide) kps_70, clv_v, kpE (r := 80) (N := 5) (o := 1639) rfl rfl rfl (by decide) (by decide) kps_70, clv_v]
    exact m_rd183 999 0 32080 0 999999 (kpT S0) (by omega) (by omega) (fun j hj => by
      rw [t88 j hj]
      rcases b65 hw.L hb.2 hr.2 hj with g | g
      · exact Or.inl (by rw [g])
      · exact Or.inr (by rw [g]))
  · intro y hy j hj
    have base : (y < 41 ∨ y = 65) → y ≠ 8 → j < mD A y → (rds (kpT S0) 115 88 0).1 (mi y) (mx y j) = iI (imgA A y j) := by
      intro g1 g2 hj
      have hm := mD_le hw y hy
      obtain ⟨t1, t2⟩ := m_tab y hy g1 (by omega)
      have t3 := m_tab2 y hy
      have t4 : mi y ≠ 70 ∨ mx y j ≠ 1 ∧ mx y j ≠ 67 ∧ mx y j ≠ 70 := by
        by_cases q : mi y = 70
        · obtain ⟨v1, v2, v3, v4⟩ := t3 q
          have hj0 : j = 0 := by omega
          subst hj0
          exact Or.inr ⟨v2, fun e => g2 (v3 e), v1⟩
        · exact Or.inl q
      unfold rds
      dsimp only
      rw [if_neg (fun e => t2 e.1), kpT_o (Or.inl t1) (by omega), s0 _ _ t1 t4, h.1 y hy j hj]
      rcases g1 with g1 | g1
      · rw [imgA_lt g1 g2]
      · subst g1
        rfl
    by_cases g : y < 41
    · by_cases g8 : y = 8
      · subst g8
        have e : mx 8 j = 67 := by show 67 + 0 * j = _; omega
        rw [e]
        show (rds (kpT S0) 115 88 0).1 70 67 = iI 1
        unfold rds
        dsimp only
        rw [if_neg (by omega), kpT_o (by omega) (by omega), s67]
      · refine base (Or.inl g) g8 ?_
        unfold mD at hj ⊢
        rwa [img_le y g] at hj
    · by_cases g65 : y = 65
      · subst g65
        exact base (Or.inr rfl) (by decide) hj
      · have hx : (y = 41 ∨ y = 42 ∨ y = 43 ∨ y = 44 ∨ y = 45 ∨ y = 46 ∨ y = 47 ∨ y = 48 ∨ y = 50 ∨ y = 51 ∨ y = 52 ∨ y = 53 ∨ y = 54 ∨ y = 55 ∨ y = 56 ∨ y = 57 ∨ y = 58 ∨ y = 59 ∨ y = 60 ∨ y = 61 ∨ y = 62 ∨ y = 63 ∨ y = 64 ∨ y = 66) ∨ y = 49 := by omega
        have h7 : A 7 0 ≤ 7 := hw.L.2.2.2.1.2
        have h6 := hw.k
        have h4 : 0 ≤ A 4 0 ∧ A 4 0 ≤ 200 := hw.L.1
        rcases hx with (rfl | rfl | rfl | rfl | rfl | rfl | rfl | rfl | rfl | rfl | rfl | rfl | rfl | rfl | rfl | rfl | rfl | rfl | rfl | rfl | rfl | rfl | rfl | rfl) | rfl
        · have e : mx 41 j = 0 := by show 0 + 0 * j = _; omega
          rw [e]
          show (rds (kpT S0) 115 88 0).1 114 0 = iI (A 4 j)
          have hj0 : j = 0 := by have hj : j < 1 := hj; omega
          subst hj0
          unfold rds
          dsimp only
          rw [if_neg (by omega), kpT_o (by omega) (by omega), s114.1, m_4 h]
        · have e : mx 42 j = 1 := by show 1 + 0 * j = _; omega
          rw [e]
          show (rds (kpT S0) 115 88 0).1 114 1 = iI (A 5 j)
          have hj0 : j = 0 := by have hj : j < 1 := hj; omega
          subst hj0
          unfold rds
          dsimp only
          rw [if_neg (by omega), kpT_o (by omega) (by omega), s114.2.1, m_5 h]
        · have e : mx 43 j = 2 := by show 2 + 0 * j = _; omega
          rw [e]
          show (rds (kpT S0) 115 88 0).1 114 2 = iI (A 6 j)
          have hj0 : j = 0 := by have hj : j < 1 := hj; omega
          subst hj0
          unfold rds
          dsimp only
          rw [if_neg (by omega), kpT_o (by omega) (by omega), s114.2.2.1, m_6 h]
        · have e : mx 44 j = 3 := by show 3 + 0 * j = _; omega
          rw [e]
          show (rds (kpT S0) 115 88 0).1 114 3 = iI (A 7 j)
          have hj0 : j = 0 := by have hj : j < 1 := hj; omega
          subst hj0
          unfold rds
          dsimp only
          rw [if_neg (by omega), kpT_o (by omega) (by omega), s114.2.2.2, m_7 h]
        · have hj : j < 10 := hj
          have e : mx 45 j = 4 + j := by show 4 + 1 * j = _; omega
          rw [e]
          show (rds (kpT S0) 115 88 0).1 114 (4 + j) = iI (A 20 j)
          unfold rds
          dsimp only
          rw [if_neg (by omega), kpT_86 (by omega), s0 86 j (by decide) (by omega), m_20 h (by omega)]
        · have hj : j < 8 := hj
          have e : mx 46 j = 14 + j := by show 14 + 1 * j = _; omega
          rw [e]
          show (rds (kpT S0) 115 88 0).1 114 (14 + j) = iI (A 21 j)
          unfold rds
          dsimp only
          rw [if_neg (by omega), kpT_87 (by omega), s0 87 j (by decide) (by omega), m_21 h (by omega)]
        · have hj : j < 80 := hj
          have e : mx 47 j = 22 + j := by show 22 + 1 * j = _; omega
          rw [e]
          show (rds (kpT S0) 115 88 0).1 114 (22 + j) = iI (A 22 j)
          unfold rds
          dsimp only
          rw [if_neg (by omega), kpT_83 (by omega), s0 83 j (by decide) (by omega), m_22 h (by omega)]
        · have hj : j < 80 := hj
          have e : mx 48 j = 102 + j := by show 102 + 1 * j = _; omega
          rw [e]
          show (rds (kpT S0) 115 88 0).1 114 (102 + j) = iI (A 23 j)
          unfold rds
          dsimp only
          rw [if_neg (by omega), kpT_84 (by omega), s0 84 j (by decide) (by omega), m_23 h (by omega)]
        · have hj : j < 80 := hj
          have e : mx 50 j = 182 + j := by show 182 + 1 * j = _; omega
          rw [e]
          show (rds (kpT S0) 115 88 0).1 114 (182 + j) = iI (A 25 j)
          unfold rds
          dsimp only
          rw [if_neg (by omega), kpT_85 (by omega), s0 85 j (by decide) (by omega), m_25 h (by omega)]
        · have hj : j < (A 4 0).toNat := hj
          have e : mx 51 j = 262 + j := by show 262 + 1 * j = _; omega
          rw [e]
          show (rds (kpT S0) 115 88 0).1 114 (262 + j) = iI (A 26 j)
          unfold rds
          dsimp only
          rw [if_neg (by omega), kpT_89 (by omega), s0 89 j (by decide) (by omega), m_26 h (by omega)]
        · have hj : j < (A 4 0).toNat := hj
          have e : mx 52 j = 462 + j := by show 462 + 1 * j = _; omega
          rw [e]
          show (rds (kpT S0) 115 88 0).1 114 (462 + j) = iI (A 27 j)
          unfold rds
          dsimp only
          rw [if_neg (by omega), kpT_90 (by omega), s0 90 j (by decide) (by omega), m_27 h (by omega)]
        · have hj : j < (A 4 0).toNat := hj
          have e : mx 53 j = 662 + j := by show 662 + 1 * j = _; omega
          rw [e]
          show (rds (kpT S0) 115 88 0).1 114 (662 + j) = iI (A 28 j)
          unfold rds
          dsimp only
          rw [if_neg (by omega), kpT_91 (by omega), s0 91 j (by decide) (by omega), m_28 h (by omega)]
        · have hj : j < (A 4 0).toNat := hj
          have e : mx 54 j = 862 + j := by show 862 + 1 * j = _; omega
          rw [e]
          show (rds (kpT S0) 115 88 0).1 114 (862 + j) = iI (A 29 j)
          unfold rds
          dsimp only
          rw [if_neg (by omega), kpT_92 (by omega), s0 92 j (by decide) (by omega), m_29 h (by omega)]
        · have hj : j < (A 4 0).toNat := hj
          have e : mx 55 j = 1062 + j := by show 1062 + 1 * j = _; omega
          rw [e]
          show (rds (kpT S0) 115 88 0).1 114 (1062 + j) = iI (A 30 j)
          unfold rds
          dsimp only
          rw [if_neg (by omega), kpT_93 (by omega), s0 93 j (by decide) (by omega), m_30 h (by omega)]
        · have hj : j < (A 4 0).toNat := hj
          have e : mx 56 j = 1262 + j := by show 1262 + 1 * j = _; omega
          rw [e]
          show (rds (kpT S0) 115 88 0).1 114 (1262 + j) = iI (A 31 j)
          unfold rds
          dsimp only
          rw [if_neg (by omega), kpT_94 (by omega), s0 94 j (by decide) (by omega), m_31 h (by omega)]
        · have hj : j < (A 6 0).toNat := hj
          have e : mx 57 j = 1462 + j := by show 1462 + 1 * j = _; omega
          rw [e]
          show (rds (kpT S0) 115 88 0).1 114 (1462 + j) = iI (A 32 j)
          unfold rds
          dsimp only
          rw [if_neg (by omega), kpT_97 (by omega), s0 97 j (by decide) (by omega), m_32 h (by omega)]
        · have hj : j < (A 6 0).toNat := hj
          have e : mx 58 j = 1486 + j := by show 1486 + 1 * j = _; omega
          rw [e]
          show (rds (kpT S0) 115 88 0).1 114 (1486 + j) = iI (A 33 j)
          unfold rds
          dsimp only
          rw [if_neg (by omega), kpT_98 (by omega), s0 98 j (by decide) (by omega), m_33 h (by omega)]
        · have hj : j < (A 6 0).toNat := hj
          have e : mx 59 j = 1510 + j := by show 1510 + 1 * j = _; omega
          rw [e]
          show (rds (kpT S0) 115 88 0).1 114 (1510 + j) = iI (A 34 j)
          unfold rds
          dsimp only
          rw [if_neg (by omega), kpT_99 (by omega), s0 99 j (by decide) (by omega), m_34 h (by omega)]
        · have hj : j < (A 6 0).toNat := hj
          have e : mx 60 j = 1534 + j := by show 1534 + 1 * j = _; omega
          rw [e]
          show (rds (kpT S0) 115 88 0).1 114 (1534 + j) = iI (A 35 j)
          unfold rds
          dsimp only
          rw [if_neg (by omega), kpT_100 (by omega), s0 100 j (by decide) (by omega), m_35 h (by omega)]
        · have hj : j < (A 7 0).toNat := hj
          have e : mx 61 j = 1565 + j := by show 1565 + 1 * j = _; omega
          rw [e]
          show (rds (kpT S0) 115 88 0).1 114 (1565 + j) = iI (A 36 j)
          unfold rds
          dsimp only
          rw [if_neg (by omega), kpT_108 (by omega), s0 108 j (by decide) (by omega), m_36 h (by omega)]
        · have hj : j < (A 7 0).toNat := hj
          have e : mx 62 j = 1572 + j := by show 1572 + 1 * j = _; omega
          rw [e]
          show (rds (kpT S0) 115 88 0).1 114 (1572 + j) = iI (A 37 j)
          unfold rds
          dsimp only
          rw [if_neg (by omega), kpT_109 (by omega), s0 109 j (by decide) (by omega), m_37 h (by omega)]
        · have hj : j < 60 := hj
          have e : mx 63 j = 1579 + j := by show 1579 + 1 * j = _; omega
          rw [e]
          show (rds (kpT S0) 115 88 0).1 114 (1579 + j) = iI (A 38 j)
          unfold rds
          dsimp only
          rw [if_neg (by omega), kpT_112 (by omega), s0 112 j (by decide) (by omega), m_38 h (by omega)]
        · have hj : j < 5 := hj
          have e : mx 64 j = 1639 + j := by show 1639 + 1 * j = _; omega
          rw [e]
          show (rds (kpT S0) 115 88 0).1 114 (1639 + j) = iI (A 39 j)
          unfold rds
          dsimp only
          rw [if_neg (by omega), kpT_80 (by omega), s0 80 j (by decide) (by omega), m_39 h (by omega)]
        · have hj : j < 32080 := hj
          have e : mx 66 j = j := by show 0 + 1 * j = _; omega
          rw [e]
          show (rds (kpT S0) 115 88 0).1 115 j = iI (A 65 j)
          unfold rds
          dsimp only
          rw [if_pos (by omega)]
          exact t88 j hj
        · exact absurd hj (Nat.not_lt_zero j)
  · show (rds (kpT S0) 115 88 0).1 70 63 = _ ∨ (rds (kpT S0) 115 88 0).1 70 63 = _ ∧ _
    have e : (rds (kpT S0) 115 88 0).1 70 63 = S.1 70 63 := by
      unfold rds
      dsimp only
      rw [if_neg (by omega), kpT_o (by omega) (by omega), s0 70 63 (by decide) (by omega)]
    rw [e]
    exact h.2
  · intro a ha
    refine ⟨?_, ?_⟩
    · funext j
      unfold rds
      dsimp only
      rw [if_neg (by omega), kpT_o (by omega) (by omega), s0 a j (by omega) (by omega)]
    · show S0.2 a = S.2 a
      rw [hS0]
theorem m_resM {A : aS} {S S0 : z_St} (h : MI A S) (hw : wf A) (h8 : A 8 0 = 1) (s0 : ∀ a j, (a ≠ 70 ∨ j ≠ 1 ∧ j ≠ 28 ∧ j ≠ 29 ∧ j ≠ 44 ∧ j ≠ 57 ∧ j ≠ 70) → S0.1 a j = S.1 a j) (sf : S0.1 70 28 = S.1 114 0 ∧ S0.1 70 29 = S.1 114 1 ∧ S0.1 70 44 = S.1 114 2 ∧ S0.1 70 57 = S.1 114 3) (t115 : ∀ j, j < 32080 → (gbT S0).1 115 j = iI (A 66 j)) : MR (resA A) (mD (resA A)) (rds (gbT S0) 88 115 0) := by
  have hk := hw.2.2 h8
  have hq : ∀ (a b : Nat), (if A 8 0 = 0 then a else b) = b := fun a b => if_neg (by omega)
  · intro y hy j hj
    by_cases g : 4 ≤ y ∧ y ≤ 7 ∨ 20 ≤ y ∧ y ≤ 39 ∨ y = 65
    · have hx : (y = 4 ∨ y = 5 ∨ y = 6 ∨ y = 7 ∨ y = 20 ∨ y = 21 ∨ y = 22 ∨ y = 23 ∨ y = 25 ∨ y = 26 ∨ y = 27 ∨ y = 28 ∨ y = 29 ∨ y = 30 ∨ y = 31 ∨ y = 32 ∨ y = 33 ∨ y = 34 ∨ y = 35 ∨ y = 36 ∨ y = 37 ∨ y = 38 ∨ y = 39 ∨ y = 65) ∨ y = 24 := by omega
      have h7 : A 44 0 ≤ 7 := hk.2.2.2.1.2
      have h6 : A 43 0 ≤ 24 := hk.2.2.1.2
      have h4 : A 41 0 ≤ 200 := hk.1.2
      rcases hx with (rfl | rfl | rfl | rfl | rfl | rfl | rfl | rfl | rfl | rfl | rfl | rfl | rfl | rfl | rfl | rfl | rfl | rfl | rfl | rfl | rfl | rfl | rfl | rfl) | rfl
      · have hj0 : j = 0 := by have hj : j < 1 := hj; omega
        subst hj0
        have e0 : mx 4 0 = 28 := by decide +kernel
        rw [e0]
        show (rds (gbT S0) 88 115 0).1 70 28 = iI (A 41 0)
        have e := h.1 41 (by decide) 0 (show 0 < (if A 8 0 = 0 then 0 else 1) by rw [hq]; decide)
        unfold rds
        dsimp only
        rw [if_neg (by omega), gbT_o (by decide) (by omega), sf.1]
        exact e
      · have hj0 : j = 0 := by have hj : j < 1 := hj; omega
        subst hj0
        have e0 : mx 5 0 = 29 := by decide +kernel
        rw [e0]
        show (rds (gbT S0) 88 115 0).1 70 29 = iI (A 42 0)
        have e := h.1 42 (by decide) 0 (show 0 < (if A 8 0 = 0 then 0 else 1) by rw [hq]; decide)
        unfold rds
        dsimp only
        rw [if_neg (by omega), gbT_o (by decide) (by omega), sf.2.1]
        exact e
      · have hj0 : j = 0 := by have hj : j < 1 := hj; omega
        subst hj0
        have e0 : mx 6 0 = 44 := by decide +kernel
        rw [e0]
        show (rds (gbT S0) 88 115 0).1 70 44 = iI (A 43 0)
        have e := h.1 43 (by decide) 0 (show 0 < (if A 8 0 = 0 then 0 else 1) by rw [hq]; decide)
        unfold rds
        dsimp only
        rw [if_neg (by omega), gbT_o (by decide) (by omega), sf.2.2.1]
        exact e
      · have hj0 : j = 0 := by have hj : j < 1 := hj; omega
        subst hj0
        have e0 : mx 7 0 = 57 := by decide +kernel
        rw [e0]
        show (rds (gbT S0) 88 115 0).1 70 57 = iI (A 44 0)
        have e := h.1 44 (by decide) 0 (show 0 < (if A 8 0 = 0 then 0 else 1) by rw [hq]; decide)
        unfold rds
        dsimp only
        rw [if_neg (by omega), gbT_o (by decide) (by omega), sf.2.2.2]
        exact e
      · have hj : j < 10 := hj
        have e : mx 20 j = j := by show 0 + 1 * j = _; omega
        have e2 := h.1 45 (by decide) j (show j < (if A 8 0 = 0 then 0 else 10) by rw [hq]; exact hj)
        have e3 : mx 45 j = 4 + j := by show 4 + 1 * j = _; omega
        rw [e3] at e2
        rw [e]
        show (rds (gbT S0) 88 115 0).1 86 j = iI (A 45 j)
        unfold rds
        dsimp only
        rw [if_neg (by omega), gbT_86 (by omega), s0 114 (4 + j) (by omega)]
        exact e2
      · have hj : j < 8 := hj
        have e : mx 21 j = j := by show 0 + 1 * j = _; omega
        have e2 := h.1 46 (by decide) j (show j < (if A 8 0 = 0 then 0 else 8) by rw [hq]; exact hj)
        have e3 : mx 46 j = 14 + j := by show 14 + 1 * j = _; omega
        rw [e3] at e2
        rw [e]
        show (rds (gbT S0) 88 115 0).1 87 j = iI (A 46 j)
        unfold rds
        dsimp only
        rw [if_neg (by omega), gbT_87 (by omega), s0 114 (14 + j) (by omega)]
        exact e2
      · have hj : j < 80 := hj
        have e : mx 22 j = j := by show 0 + 1 * j = _; omega
        have e2 := h.1 47 (by decide) j (show j < (if A 8 0 = 0 then 0 else 80) by rw [hq]; exact hj)
        have e3 : mx 47 j = 22 + j := by show 22 + 1 * j = _; omega
        rw [e3] at e2
        rw [e]
        show (rds (gbT S0) 88 115 0).1 83 j = iI (A 47 j)
        unfold rds
        dsimp only
        rw [if_neg (by omega), gbT_83 (by omega), s0 114 (22 + j) (by omega)]
        exact e2
      · have hj : j < 80 := hj
        have e : mx 23 j = j := by show 0 + 1 * j = _; omega
        have e2 := h.1 48 (by decide) j (show j < (if A 8 0 = 0 then 0 else 80) by rw [hq]; exact hj)
        have e3 : mx 48 j = 102 + j := by show 102 + 1 * j = _; omega
        rw [e3] at e2
        rw [e]
        show (rds (gbT S0) 88 115 0).1 84 j = iI (A 48 j)
        unfold rds
        dsimp only
        rw [if_neg (by omega), gbT_84 (by omega), s0 114 (102 + j) (by omega)]
        exact e2
      · have hj : j < 80 := hj
        have e : mx 25 j = j := by show 0 + 1 * j = _; omega
        have e2 := h.1 50 (by decide) j (show j < (if A 8 0 = 0 then 0 else 80) by rw [hq]; exact hj)
        have e3 : mx 50 j = 182 + j := by show 182 + 1 * j = _; omega
        rw [e3] at e2
        rw [e]
        show (rds (gbT S0) 88 115 0).1 85 j = iI (A 50 j)
        unfold rds
        dsimp only
        rw [if_neg (by omega), gbT_85 (by omega), s0 114 (182 + j) (by omega)]
        exact e2
      · have hj : j < (A 41 0).toNat := hj
        have e : mx 26 j = j := by show 0 + 1 * j = _; omega
        have e2 := h.1 51 (by decide) j (show j < (if A 8 0 = 0 then 0 else (A 41 0).toNat) by rw [hq]; exact hj)
        have e3 : mx 51 j = 262 + j := by show 262 + 1 * j = _; omega
        rw [e3] at e2
        rw [e]
        show (rds (gbT S0) 88 115 0).1 89 j = iI (A 51 j)
        unfold rds
        dsimp only
        rw [if_neg (by omega), gbT_89 (by omega), s0 114 (262 + j) (by omega)]
        exact e2
      · have hj : j < (A 41 0).toNat := hj
        have e : mx 27 j = j := by show 0 + 1 * j = _; omega
        have e2 := h.1 52 (by decide) j (show j < (if A 8 0 = 0 then 0 else (A 41 0).toNat) by rw [hq]; exact hj)
        have e3 : mx 52 j = 462 + j := by show 462 + 1 * j = _; omega
        rw [e3] at e2
        rw [e]
        show (rds (gbT S0) 88 115 0).1 90 j = iI (A 52 j)
        unfold rds
        dsimp only
        rw [if_neg (by omega), gbT_90 (by omega), s0 114 (462 + j) (by omega)]
        exact e2
      · have hj : j < (A 41 0).toNat := hj
        have e : mx 28 j = j := by show 0 + 1 * j = _; omega
        have e2 := h.1 53 (by decide) j (show j < (if A 8 0 = 0 then 0 else (A 41 0).toNat) by rw [hq]; exact hj)
        have e3 : mx 53 j = 662 + j := by show 662 + 1 * j = _; omega
        rw [e3] at e2
        rw [e]
        show (rds (gbT S0) 88 115 0).1 91 j = iI (A 53 j)
        unfold rds
        dsimp only
        rw [if_neg (by omega), gbT_91 (by omega), s0 114 (662 + j) (by omega)]
        exact e2
      · have hj : j < (A 41 0).toNat := hj
        have e : mx 29 j = j := by show 0 + 1 * j = _; omega
        have e2 := h.1 54 (by decide) j (show j < (if A 8 0 = 0 then 0 else (A 41 0).toNat) by rw [hq]; exact hj)
        have e3 : mx 54 j = 862 + j := by show 862 + 1 * j = _; omega
        rw [e3] at e2
        rw [e]
        show (rds (gbT S0) 88 115 0).1 92 j = iI (A 54 j)
        unfold rds
        dsimp only
        rw [if_neg (by omega), gbT_92 (by omega), s0 114 (862 + j) (by omega)]
        exact e2
      · have hj : j < (A 41 0).toNat := hj
        have e : mx 30 j = j := by show 0 + 1 * j = _; omega
        have e2 := h.1 55 (by decide) j (show j < (if A 8 0 = 0 then 0 else (A 41 0).toNat) by rw [hq]; exact hj)
        have e3 : mx 55 j = 1062 + j := by show 1062 + 1 * j = _; omega
        rw [e3] at e2
        rw [e]
        show (rds (gbT S0) 88 115 0).1 93 j = iI (A 55 j)
        unfold rds
        dsimp only
        rw [if_neg (by omega), gbT_93 (by omega), s0 114 (1062 + j) (by omega)]
        exact e2
      · have hj : j < (A 41 0).toNat := hj
        have e : mx 31 j = j := by show 0 + 1 * j = _; omega
        have e2 := h.1 56 (by decide) j (show j < (if A 8 0 = 0 then 0 else (A 41 0).toNat) by rw [hq]; exact hj)
        have e3 : mx 56 j = 1262 + j := by show 1262 + 1 * j = _; omega
        rw [e3] at e2
        rw [e]
        show (rds (gbT S0) 88 115 0).1 94 j = iI (A 56 j)
        unfold rds
        dsimp only
        rw [if_neg (by omega), gbT_94 (by omega), s0 114 (1262 + j) (by omega)]
        exact e2
      · have hj : j < (A 43 0).toNat := hj
        have e : mx 32 j = j := by show 0 + 1 * j = _; omega
        have e2 := h.1 57 (by decide) j (show j < (if A 8 0 = 0 then 0 else (A 43 0).toNat) by rw [hq]; exact hj)
        have e3 : mx 57 j = 1462 + j := by show 1462 + 1 * j = _; omega
        rw [e3] at e2
        rw [e]
        show (rds (gbT S0) 88 115 0).1 97 j = iI (A 57 j)
        unfold rds
        dsimp only
        rw [if_neg (by omega), gbT_97 (by omega), s0 114 (1462 + j) (by omega)]
        exact e2
      · have hj : j < (A 43 0).toNat := hj
        have e : mx 33 j = j := by show 0 + 1 * j = _; omega
        have e2 := h.1 58 (by decide) j (show j < (if A 8 0 = 0 then 0 else (A 43 0).toNat) by rw [hq]; exact hj)
        have e3 : mx 58 j = 1486 + j := by show 1486 + 1 * j = _; omega
        rw [e3] at e2
        rw [e]
        show (rds (gbT S0) 88 115 0).1 98 j = iI (A 58 j)
        unfold rds
        dsimp only
        rw [if_neg (by omega), gbT_98 (by omega), s0 114 (1486 + j) (by omega)]
        exact e2
      · have hj : j < (A 43 0).toNat := hj
        have e : mx 34 j = j := by show 0 + 1 * j = _; omega
        have e2 := h.1 59 (by decide) j (show j < (if A 8 0 = 0 then 0 else (A 43 0).toNat) by rw [hq]; exact hj)
        have e3 : mx 59 j = 1510 + j := by show 1510 + 1 * j = _; omega
        rw [e3] at e2
        rw [e]
        show (rds (gbT S0) 88 115 0).1 99 j = iI (A 59 j)
        unfold rds
        dsimp only
        rw [if_neg (by omega), gbT_99 (by omega), s0 114 (1510 + j) (by omega)]
        exact e2
      · have hj : j < (A 43 0).toNat := hj
        have e : mx 35 j = j := by show 0 + 1 * j = _; omega
        have e2 := h.1 60 (by decide) j (show j < (if A 8 0 = 0 then 0 else (A 43 0).toNat) by rw [hq]; exact hj)
        have e3 : mx 60 j = 1534 + j := by show 1534 + 1 * j = _; omega
        rw [e3] at e2
        rw [e]
        show (rds (gbT S0) 88 115 0).1 100 j = iI (A 60 j)
        unfold rds
        dsimp only
        rw [if_neg (by omega), gbT_100 (by omega), s0 114 (1534 + j) (by omega)]
        exact e2
      · have hj : j < (A 44 0).toNat := hj
        have e : mx 36 j = j := by show 0 + 1 * j = _; omega
        have e2 := h.1 61 (by decide) j (show j < (if A 8 0 = 0 then 0 else (A 44 0).toNat) by rw [hq]; exact hj)
        have e3 : mx 61 j = 1565 + j := by show 1565 + 1 * j = _; omega
        rw [e3] at e2
        rw [e]
        show (rds (gbT S0) 88 115 0).1 108 j = iI (A 61 j)
        unfold rds
        dsimp only
        rw [if_neg (by omega), gbT_108 (by omega), s0 114 (1565 + j) (by omega)]
        exact e2
      · have hj : j < (A 44 0).toNat := hj
        have e : mx 37 j = j := by show 0 + 1 * j = _; omega
        have e2 := h.1 62 (by decide) j (show j < (if A 8 0 = 0 then 0 else (A 44 0).toNat) by rw [hq]; exact hj)
        have e3 : mx 62 j = 1572 + j := by show 1572 + 1 * j = _; omega
        rw [e3] at e2
        rw [e]
        show (rds (gbT S0) 88 115 0).1 109 j = iI (A 62 j)
        unfold rds
        dsimp only
        rw [if_neg (by omega), gbT_109 (by omega), s0 114 (1572 + j) (by omega)]
        exact e2
      · have hj : j < 60 := hj
        have e : mx 38 j = j := by show 0 + 1 * j = _; omega
        have e2 := h.1 63 (by decide) j (show j < (if A 8 0 = 0 then 0 else 60) by rw [hq]; exact hj)
        have e3 : mx 63 j = 1579 + j := by show 1579 + 1 * j = _; omega
        rw [e3] at e2
        rw [e]
        show (rds (gbT S0) 88 115 0).1 112 j = iI (A 63 j)
        unfold rds
        dsimp only
        rw [if_neg (by omega), gbT_112 (by omega), s0 114 (1579 + j) (by omega)]
        exact e2
      · have hj : j < 5 := hj
        have e : mx 39 j = j := by show 0 + 1 * j = _; omega
        have e2 := h.1 64 (by decide) j (show j < (if A 8 0 = 0 then 0 else 5) by rw [hq]; exact hj)
        have e3 : mx 64 j = 1639 + j := by show 1639 + 1 * j = _; omega
        rw [e3] at e2
        rw [e]
        show (rds (gbT S0) 88 115 0).1 80 j = iI (A 64 j)
        unfold rds
        dsimp only
        rw [if_neg (by omega), gbT_80 (by omega), s0 114 (1639 + j) (by omega)]
        exact e2
      · have hj : j < 32080 := hj
        have e : mx 65 j = j := by show 0 + 1 * j = _; omega
        rw [e]
        show (rds (gbT S0) 88 115 0).1 88 j = iI (A 66 j)
        unfold rds
        dsimp only
        rw [if_pos (by omega)]
        exact t115 j hj
      · exact absurd hj (Nat.not_lt_zero j)
    · have hj : j < mD A y := by
        unfold mD at hj ⊢
        by_cases g66 : y = 66
        · subst g66
          exact hj
        · rwa [res_o y (by omega) (by omega)] at hj
      have hm := mD_le hw y hy
      obtain ⟨t1, t88, tf⟩ := m_tab3 hy g (by omega)
      have t4' : mi y ≠ 70 ∨ mx y j ≠ 1 ∧ mx y j ≠ 28 ∧ mx y j ≠ 29 ∧ mx y j ≠ 44 ∧ mx y j ≠ 57 ∧ mx y j ≠ 70 := by
        by_cases q : mi y = 70
        · obtain ⟨v1, v2, v3, v4⟩ := m_tab2 y hy q
          have hj0 : j = 0 := by omega
          subst hj0
          obtain ⟨u1, u2, u3, u4⟩ := tf q
          exact Or.inr ⟨v2, u1, u2, u3, u4, v1⟩
        · exact Or.inl q
      unfold rds
      dsimp only
      rw [if_neg (fun e => t88 e.1), gbT_o t1 (by omega), s0 _ _ t4', h.1 y hy j hj, resA_o (by omega) (by omega)]

theorem m_res {A : aS} {S : z_St} (h : MI A S) (hw : wf A) (h8 : A 8 0 = 1) : ∃ S1, z_ew 1000 184 [.ref 70] S = some (.inl (some (.int (iI 1))), S1) ∧ MI (resA A) S1 ∧ fM S S1 := by
  have hb := hw.b
  have hr := hw.r
  have hk := hw.2.2 h8
  have hq : ∀ (a b : Nat), (if A 8 0 = 0 then a else b) = b := fun a b => if_neg (by omega)
  obtain ⟨S0, hS0⟩ : ∃ S0 : z_St, S0 = (z_w1 (z_w1 (z_w1 (z_w1 (z_w1 (z_w1 S.1 70 1 (nI 0)) 70 28 (S.1 114 0)) 70 29 (S.1 114 1)) 70 44 (S.1 114 2)) 70 57 (S.1 114 3)) 70 70 (nI 4), S.2) := ⟨_, rfl⟩
  have i4 : S0.1 70 70 = iI ((4 : Nat) : Int) := by
    rw [hS0]
    dsimp only
    rw [z_w1_r, if_pos ⟨rfl, rfl⟩]
    rfl
  have s0 : ∀ a j, (a ≠ 70 ∨ j ≠ 1 ∧ j ≠ 28 ∧ j ≠ 29 ∧ j ≠ 44 ∧ j ≠ 57 ∧ j ≠ 70) → S0.1 a j = S.1 a j := by
    intro a j h2
    rw [hS0]
    dsimp only
    rw [z_w1_r, if_neg (by omega), z_w1_r, if_neg (by omega), z_w1_r, if_neg (by omega), z_w1_r, if_neg (by omega), z_w1_r, if_neg (by omega), z_w1_r, if_neg (by omega)]
  have sf : S0.1 70 28 = S.1 114 0 ∧ S0.1 70 29 = S.1 114 1 ∧ S0.1 70 44 = S.1 114 2 ∧ S0.1 70 57 = S.1 114 3 := by
    rw [hS0]
    dsimp only
    refine ⟨?_, ?_, ?_, ?_⟩
    · rw [z_w1_r, if_neg (by omega), z_w1_r, if_neg (by omega), z_w1_r, if_neg (by omega), z_w1_r, if_neg (by omega), z_w1_r, if_pos ⟨rfl, rfl⟩]
    · rw [z_w1_r, if_neg (by omega), z_w1_r, if_neg (by omega), z_w1_r, if_neg (by omega), z_w1_r, if_pos ⟨rfl, rfl⟩]
    · rw [z_w1_r, if_neg (by omega), z_w1_r, if_neg (by omega), z_w1_r, if_pos ⟨rfl, rfl⟩]
    · rw [z_w1_r, if_neg (by omega), z_w1_r, if_pos ⟨rfl, rfl⟩]
  have hk66 : ∀ j, j < 32080 → S.1 115 j = iI (A 66 j) := fun j hj => by
    have e := h.1 66 (by decide) j (show j < (if A 8 0 = 0 then 0 else 32080) by rw [hq]; exact hj)
    have e2 : mx 66 j = j := by show 0 + 1 * j = _; omega
    rw [e2] at e
    exact e
  have t115 : ∀ j, j < 32080 → (gbT S0).1 115 j = iI (A 66 j) := fun j hj => by
    rw [gbT_o (by decide) (by omega), s0 115 j (by omega)]
    exact hk66 j hj
  have e1 : z_w1 (z_w1 (z_w1 (z_w1 (z_w1 (z_w1 S.1 70 1 (nI 0)) 70 28 (z_w1 S.1 70 1 (nI 0) 114 0)) 70 29 (z_w1 S.1 70 1 (nI 0) 114 1)) 70 44 (z_w1 S.1 70 1 (nI 0) 114 2)) 70 57 (z_w1 S.1 70 1 (nI 0) 114 3)) 70 70 (nI 4) = S0.1 := by
    rw [hS0]
    rfl
  refine ⟨rds (gbT S0) 88 115 0, ?_, ⟨?_, ?_⟩, ?_⟩
  · rw [zx_184 999, m_8 h, h8, if_neg n10, zq_184_14]
    dsimp only
    rw [e1, show (S0.1, S.2) = S0 by rw [hS0], gbE (r := 86) (N := 10) (o := 4) rfl rfl rfl (by decide) (by decide) (by decide) i4, clv_v, gbE (r := 87) (N := 8) (o := 14) rfl rfl rfl (by decide) (by decide) (by decide) gbs_70, clv_v, gbE (r := 83) (N := 80) (o := 22) rfl rfl rfl (by decide) (by decide) (by decide) gbs_70, clv_v, gbE (r := 84) (N := 80) (o := 102) rfl rfl rfl (by decide) (by decide) (by decide) gbs_70, clv_v, gbE (r := 85) (N := 80) (o := 182) rfl rfl rfl (by decide) (by decide) (by decide) gbs_70, clv_v, gbE (r := 89) (N := 200) (o := 262) rfl rfl rfl (by decide) (by decide) (by decide) gbs_70, clv_v, gbE (r := 90) (N := 200) (o := 462) rfl rfl rfl (by decide) (by decide) (by decide) gbs_70, clv_v, gbE (r := 91) (N := 200) (o := 662) rfl rfl rfl (by decide) (by decide) (by decide) gbs_70, clv_v, gbE (r := 92) (N := 200) (o := 862) rfl rfl rfl (by decide) (by decide) (by decide) gbs_70, clv_v, gbE (r := 93) (N := 200) (o := 1062) rfl rfl rfl (by decide) (by decide) (by decide) gbs_70, clv_v, gbE (r := 94) (N := 200) (o := 1262) rfl rfl rfl (by decide) (by decide) (by decide) gbs_70, clv_v, gbE (r := 97) (N := 24) (o := 1462) rfl rfl rfl (by decide) (by decide) (by decide) gbs_70, clv_v, gbE (r := 98) (N := 24) (o := 1486) rfl rfl rfl (by decide) (by decide) (by decide) gbs_70, clv_v, gbE (r := 99) (N := 24) (o := 1510) rfl rfl rfl (by decide) (by decide) (by decide) gbs_70, clv_v, gbE (r := 100) (N := 24) (o := 1534) rfl rfl rfl (by decide) (by decide) (by decide) gbs_70, clv_v, gbE (r := 107) (N := 7) (o := 1558) rfl rfl rfl (by decide) (by decide) (by decide) gbs_70, clv_v, gbE (r := 108) (N := 7) (o := 1565) rfl rfl rfl (by decide) (by decide) (by decide) gbs_70, clv_v, gbE (r := 109) (N := 7) (o := 1572) rfl rfl rfl (by decide) (by decide) (by decide) gbs_70, clv_v, gbE (r := 112) (N := 60) (o := 1579) rfl rfl rfl (by decide) (by decide) (by decide) gbs_70, clv_v, gbE (r := 80) (N := 5) (o := 1639) rfl rfl rfl (by decide) (by decide) (by decide) gbs_70, clv_v]
    exact m_rd184 999 0 32080 0 999998 (gbT S0) (by omega) (by omega) (fun j hj => by
      rw [t115 j hj]
      rcases b65 hk hb.2 hr.2 hj with g | g
      · exact Or.inl (by rw [show A 66 j = 0 from g])
      · exact Or.inr (by rw [show A 66 j = 1 from g]))
  · exact m_resM h hw h8 s0 sf t115
  · show (rds (gbT S0) 88 115 0).1 70 63 = _ ∨ (rds (gbT S0) 88 115 0).1 70 63 = _ ∧ _
    have e : (rds (gbT S0) 88 115 0).1 70 63 = S.1 70 63 := by
      unfold rds
      dsimp only
      rw [if_neg (by omega), gbT_o (by decide) (by omega), s0 70 63 (by omega)]
    rw [e]
    exact h.2
  · intro a ha
    refine ⟨?_, ?_⟩
    · funext j
      unfold rds
      dsimp only
      rw [if_neg (by omega), gbT_o (gl_out ha) (by omega), s0 a j (by omega)]
    · show S0.2 a = S.2 a
      rw [hS0]
theorem o_image : ∀ S, AI S → ∃ (S1 S2 : z_St), z_ew 1000 97 [.ref 0] S = some (.inl none, S1) ∧ z_ew 1000 183 [.ref 70] S1 = some (.inl none, S2) ∧ AI S2 := by
  intro S ⟨p, A, hC, hM, hw⟩
  obtain ⟨S1, e1, e2, e3⟩ := c_img hC hw
  obtain ⟨S2, e4, e5, e6⟩ := m_img (hM.c hw e3) hw
  exact ⟨S1, S2, e1, e4, p, imgA A, e2.m e6, e5, wf_img hw⟩
theorem o_restore : ∀ S, AI S → ∃ (y : Int32) (S1 S2 : z_St), z_ew 1000 98 [.ref 0] S = some (.inl (some (.int y)), S1) ∧ z_ew 1000 184 [.ref 70] S1 = some (.inl (some (.int y)), S2) ∧ AI S2 := by
  intro S ⟨p, A, hC, hM, hw⟩
  have h8 : A 8 0 = 0 ∨ A 8 0 = 1 := hw.P.2.2.2.2.2.2.2.2.1
  rcases h8 with h8 | h8
  · refine ⟨iI 0, S, (z_w1 S.1 70 1 (nI 0), S.2), ?_, ?_, p, A, hC.m (fM_w1 (by omega) (by omega)), hM.code hw, hw⟩
    · rw [zx_98 999, c_8 hC, h8, if_pos z00, zq_98_18, c_8 hC, h8, rb_0, cond_true]
    · rw [zx_184 999, m_8 hM, h8, if_pos z00]
      rfl
  · obtain ⟨S1, e1, e2, e3⟩ := c_res hC hw h8
    obtain ⟨S2, e4, e5, e6⟩ := m_res (hM.c hw e3) hw h8
    exact ⟨iI 1, S1, S2, e1, e4, p, resA A, e2.m e6, e5, wf_res hw h8⟩
