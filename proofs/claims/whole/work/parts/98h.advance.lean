/-! the next token: the class's -/
def kd (T : Nat → Int) (n s : Nat) : Int := if n ≤ s then 0 else if tkL (T s) = true then 2 else if tkD (T s) = true then 1 else if tkS (T s) = true then T s else 3
def en (T : Nat → Int) (n s : Nat) : Nat := if n ≤ s then s else if tkL (T s) = true then rn tkL T n s else if tkD (T s) = true then rn tkD T n s else s + 1
def nb (T : Nat → Int) (n s : Nat) : Int := if n ≤ s then 0 else if tkL (T s) = true then 0 else if tkD (T s) = true then (if rn tkD T n s - s ≤ 4 then cvF 10000 T (n - s) s 0 else 10000) else 0
def wd (T : Nat → Int) (n s : Nat) : Nat := if n ≤ s then 0 else if tkL (T s) = true then fdF T s (rn tkL T n s) 17 0 else 0
def tkC (T : Nat → Int) (n s : Nat) (S : z_St) : Prop := S.1 23 1 = iI (n : Int) ∧ S.1 23 2 = iI (en T n s : Int) ∧ S.1 23 3 = iI (kd T n s) ∧ S.1 23 4 = iI (s : Int) ∧ S.1 23 5 = iI (nb T n s) ∧ S.1 23 6 = iI ((1000 + wd T n s : Nat) : Int)
def txC (T : Nat → Int) (n : Nat) (S : z_St) : Prop := ∀ k, k < n → (0 ≤ T k ∧ T k ≤ 255) ∧ S.1 1 k = iI (sb (T k))
theorem fdF_l {T : Nat → Int} {s e : Nat} : ∀ k i, fdF T s e k i ≤ i + k
  | 0, i => Nat.zero_le _
  | k + 1, i => by
    have ih := fdF_l (T := T) (s := s) (e := e) k (i + 1)
    rw [fdF_s]
    split <;> omega
section ADV
variable {S : z_St}
theorem txC.f {T : Nat → Int} {n : Nat} {S' : z_St} (h : txC T n S) (hf : ∀ i, S'.1 1 i = S.1 1 i) : txC T n S' := fun k hk => ⟨(h k hk).1, (hf k).trans (h k hk).2⟩
theorem c_adv {T : Nat → Int} {n0 q : Nat} (hn0 : n0 ≤ 700) (hT : txC T n0 S) (h1 : S.1 23 1 = iI (n0 : Int)) (h2 : S.1 23 2 = iI (q : Int)) (hq : q ≤ n0) (d : Nat) : ∃ S', z_ew (d + 3) 61 [.ref 23] S = some (.inl none, S') ∧ tkC T n0 (rn tkB T n0 q) S' ∧ (∀ a i, a ≠ 23 → S'.1 a i = S.1 a i) ∧ S'.2 = S.2 := by
  obtain ⟨S0, hS0⟩ : ∃ S0 : z_St, S0 = (z_w1 (z_w1 S.1 23 6 (nI 1000)) 23 5 (nI 0), S.2) := ⟨_, rfl⟩
  have f0 : ∀ a i, a ≠ 23 ∨ (i ≠ 5 ∧ i ≠ 6) → S0.1 a i = S.1 a i := by
    intro a i h
    rw [hS0]
    dsimp only
    rw [z_w1_r, if_neg (by omega), z_w1_r, if_neg (by omega)]
  have hT0 : txC T n0 S0 := hT.f (fun i => f0 1 i (by omega))
  have b64 : z_ew (d + 2) 64 [.ref 23] S0 = some (.inl (some (.int (iI (rn tkB T n0 q : Int)))), S0) := by
    rw [zx_64, f0 23 2 (by omega), h2]
    exact c_blk hn0 hT0 ((f0 23 1 (by omega)).trans h1) (d + 1) 0 (n0 - q) q 999999 (by omega) (by omega)
  have hs := rn_r (P := tkB) (T := T) hq
  obtain ⟨s, hse⟩ : ∃ s, s = rn tkB T n0 q := ⟨_, rfl⟩
  rw [← hse] at b64 hs ⊢
  obtain ⟨S1, hS1⟩ : ∃ S1 : z_St, S1 = (z_w1 (z_w1 S0.1 23 4 (iI (s : Int))) 23 2 (iI (s : Int)), S0.2) := ⟨_, rfl⟩
  have f1 : ∀ a i, a ≠ 23 → S1.1 a i = S.1 a i := by
    intro a i h
    rw [hS1]
    dsimp only
    rw [z_w1_r, if_neg (by omega), z_w1_r, if_neg (by omega), f0 a i (Or.inl h)]
  have g1 : S1.1 23 1 = iI (n0 : Int) := by
    rw [hS1]
    dsimp only
    rw [z_w1_r, if_neg (by omega), z_w1_r, if_neg (by omega), f0 23 1 (by omega), h1]
  have g2 : S1.1 23 2 = iI (s : Int) := by
    rw [hS1]
    dsimp only
    rw [z_w1_r, if_pos ⟨rfl, rfl⟩]
  have g4 : S1.1 23 4 = iI (s : Int) := by
    rw [hS1]
    dsimp only
    rw [z_w1_r, if_neg (by omega), z_w1_r, if_pos ⟨rfl, rfl⟩]
  have g5 : S1.1 23 5 = iI 0 := by
    rw [hS1]
    dsimp only
    rw [z_w1_r, if_neg (by omega), z_w1_r, if_neg (by omega), hS0]
    dsimp only
    rw [z_w1_r, if_pos ⟨rfl, rfl⟩]
    rfl
  have g6 : S1.1 23 6 = iI ((1000 : Nat) : Int) := by
    rw [hS1]
    dsimp only
    rw [z_w1_r, if_neg (by omega), z_w1_r, if_neg (by omega), hS0]
    dsimp only
    rw [z_w1_r, if_neg (by omega), z_w1_r, if_pos ⟨rfl, rfl⟩, iI_n]
  have s2 : S1.2 = S.2 := by rw [hS1, hS0]
  have hT1 : txC T n0 S1 := hT.f (fun i => f1 1 i (by decide))
  have e0 : z_ew (d + 3) 61 [.ref 23] S = if s < n0 then z_R61 (d + 2) 999999 47 0 [some (.ref 23)] [] S1 else z_R61 (d + 2) 999999 162 0 [some (.ref 23)] [] (z_w1 S1.1 23 3 (nI 0), S1.2) := by
    rw [zx_61, ← hS0, b64, cli_i, f0 23 1 (by omega), h1, ← hS1]
    by_cases c : s < n0
    · rw [if_pos (by rw [iI_lt (by omega) (by omega) (by omega) (by omega)]; omega), if_pos c]
    · rw [if_neg (by rw [iI_lt (by omega) (by omega) (by omega) (by omega)]; omega), if_neg c, hS1]
  by_cases c : s < n0
  · rw [e0, if_pos c]
    obtain ⟨hr, hb⟩ := hT1 s c
    rw [zq_61_47, g4, ixN (show s < 700 by omega) (by decide), cond_true, tN (by omega), hb, c_isL hr (d + 1), cli_i]
    by_cases cl : tkL (T s) = true
    · have w3 : ∀ a i, a ≠ 23 ∨ i ≠ 3 → z_w1 S1.1 23 3 (nI 2) a i = S1.1 a i := by
        intro a i h
        rw [z_w1_r, if_neg (by omega)]
      obtain ⟨S2, a1, a2, a3, a4⟩ := c_let (T := T) hn0 d 0 (n0 - s) s z_fuel (z_w1 S1.1 23 3 (nI 2), S1.2) (by omega) (by unfold z_fuel; omega) (hT1.f (fun i => w3 1 i (by omega))) ((w3 23 1 (by omega)).trans g1) ((w3 23 2 (by omega)).trans g2)
      have hrn := rn_r (P := tkL) (T := T) (n := n0) (q := s) (by omega)
      have a2 : S2.1 23 2 = iI (rn tkL T n0 s : Int) := a2
      have hT2 : txC T n0 S2 := hT1.f (fun i => (a3 1 i (by omega)).trans (w3 1 i (by omega)))
      have e65 : z_ew (d + 2) 65 [.ref 23] (z_w1 S1.1 23 3 (nI 2), S1.2) = some (.inl none, S2) := (ze_65 (d + 1) [.ref 23] _ rfl).trans a1
      have e4 : S2.1 23 4 = iI (s : Int) := (a3 23 4 (by omega)).trans ((w3 23 4 (by omega)).trans g4)
      have hfl := fdF_l (T := T) (s := s) (e := rn tkL T n0 s) 17 0
      have e73 : z_ew (d + 2) 73 [.ref 1, .int (S2.1 23 4), .int (S2.1 23 2)] S2 = some (.inl (some (.ref (1000 + fdF T s (rn tkL T n0 s) 17 0))), S2) := by
        rw [e4, a2, zx_73, iI_n 0]
        exact c_fdL hn0 hT2 hrn.2 hrn.1 (d + 1) 0 17 0 999999 none none (by omega) (by omega)
      refine ⟨(z_w1 S2.1 23 6 (nI (1000 + fdF T s (rn tkL T n0 s) 17 0)), S2.2), ?_, ⟨?_, ?_, ?_, ?_, ?_, ?_⟩, fun a i h => ?_, ?_⟩
      · rw [cl, if_neg (by decide +kernel), e65, clv_v, e73, clr_r, show Nat.blt (1000 + fdF T s (rn tkL T n0 s) 17 0) 2000 = true from Nat.ble_eq_true_of_le (by omega), cond_true, zq_61_162]
      · dsimp only
        rw [z_w1_r, if_neg (by omega), a3 23 1 (by omega)]
        exact (w3 23 1 (by omega)).trans g1
      · dsimp only
        rw [z_w1_r, if_neg (by omega), a2]
        unfold en
        rw [if_neg (by omega), if_pos cl]
      · dsimp only
        rw [z_w1_r, if_neg (by omega), a3 23 3 (by omega)]
        dsimp only
        rw [z_w1_r, if_pos ⟨rfl, rfl⟩]
        unfold kd
        rw [if_neg (by omega), if_pos cl]
        rfl
      · dsimp only
        rw [z_w1_r, if_neg (by omega), e4]
      · dsimp only
        rw [z_w1_r, if_neg (by omega), a3 23 5 (by omega)]
        refine (w3 23 5 (by omega)).trans (g5.trans ?_)
        unfold nb
        rw [if_neg (by omega), if_pos cl]
      · dsimp only
        rw [z_w1_r, if_pos ⟨rfl, rfl⟩, iI_n]
        unfold wd
        rw [if_neg (by omega), if_pos cl]
      · dsimp only
        rw [z_w1_r, if_neg (by omega), a3 a i (Or.inl h)]
        exact (w3 a i (Or.inl h)).trans (f1 a i h)
      · exact a4.trans s2
    · rw [Bool.eq_false_iff.mpr cl, if_pos (by rfl), zq_61_93, g4, ixN (show s < 700 by omega) (by decide), cond_true, tN (by omega), hb, c_isD hr (d + 1), cli_i]
      by_cases cd : tkD (T s) = true
      · have w3 : ∀ a i, a ≠ 23 ∨ i ≠ 3 → z_w1 S1.1 23 3 (nI 1) a i = S1.1 a i := by
          intro a i h
          rw [z_w1_r, if_neg (by omega)]
        obtain ⟨S2, a1, a2, a5, a3, a4⟩ := c_dig (T := T) (s := s) hn0 d 0 (n0 - s) s z_fuel 0 (z_w1 S1.1 23 3 (nI 1), S1.2) (by omega) (Nat.le_refl _) (by unfold z_fuel; omega) (hT1.f (fun i => w3 1 i (by omega))) ((w3 23 1 (by omega)).trans g1) ((w3 23 2 (by omega)).trans g2) ((w3 23 4 (by omega)).trans g4) ((w3 23 5 (by omega)).trans g5) (by decide)
        have e66 : z_ew (d + 2) 66 [.ref 23] (z_w1 S1.1 23 3 (nI 1), S1.2) = some (.inl none, S2) := (ze_66 (d + 1) [.ref 23] _ rfl).trans a1
        refine ⟨S2, ?_, ⟨?_, ?_, ?_, ?_, ?_, ?_⟩, fun a i h => ?_, a4.trans s2⟩
        · rw [cd, if_neg (by decide +kernel), e66, clv_v, zq_61_162]
        · rw [a3 23 1 (by omega)]
          exact (w3 23 1 (by omega)).trans g1
        · rw [a2]
          unfold en rn
          rw [if_neg (by omega), if_neg cl, if_pos cd]
        · rw [a3 23 3 (by omega)]
          dsimp only
          rw [z_w1_r, if_pos ⟨rfl, rfl⟩]
          unfold kd
          rw [if_neg (by omega), if_neg cl, if_pos cd]
          rfl
        · rw [a3 23 4 (by omega)]
          exact (w3 23 4 (by omega)).trans g4
        · rw [a5]
          unfold nb rn
          rw [if_neg (show ¬ n0 ≤ s by omega), if_neg cl, if_pos cd]
        · rw [a3 23 6 (by omega)]
          refine (w3 23 6 (by omega)).trans (g6.trans ?_)
          unfold wd
          rw [if_neg (by omega), if_neg cl]
        · rw [a3 a i (Or.inl h)]
          exact (w3 a i (Or.inl h)).trans (f1 a i h)
      · rw [Bool.eq_false_iff.mpr cd, if_pos (by rfl), zq_61_120, g4, ixN (show s < 700 by omega) (by decide), cond_true, tN (by omega), hb, c_isS hr (d + 1), cli_i]
        have hkd : kd T n0 s = if tkS (T s) = true then T s else 3 := by
          unfold kd
          rw [if_neg (by omega), if_neg cl, if_neg cd]
        have e3 : (s : Int) + ((1 : Nat) : Int) = ((s + 1 : Nat) : Int) := by omega
        have fin : ∀ n, z_R61 (d + 2) (n + 2) 149 0 [some (.ref 23)] [.int (iI (kd T n0 s)), .ref 23] S1 = some (.inl none, (z_w1 (z_w1 S1.1 23 3 (iI (kd T n0 s))) 23 2 (iI ((s + 1 : Nat) : Int)), S1.2)) := by
          intro n
          rw [zq_61_149, zq_61_162, g2, iI_n 1, iI_add, e3]
        refine ⟨(z_w1 (z_w1 S1.1 23 3 (iI (kd T n0 s))) 23 2 (iI ((s + 1 : Nat) : Int)), S1.2), ?_, ⟨?_, ?_, ?_, ?_, ?_, ?_⟩, fun a i h => ?_, s2⟩
        · by_cases cs : tkS (T s) = true
          · have hsb : sb (T s) = T s := by
              have := of_decide_eq_true cs
              unfold sb
              rw [if_neg (by omega)]
            rw [cs, if_neg (by decide +kernel), g4, ixN (show s < 700 by omega) (by decide), cond_true, tN (by omega), hb, hsb]
            rw [if_pos cs] at hkd
            rw [← hkd]
            exact fin 999994
          · rw [Bool.eq_false_iff.mpr cs, if_pos (by rfl), zq_61_148, iI_n 3]
            rw [if_neg cs] at hkd
            rw [show ((3 : Nat) : Int) = kd T n0 s by rw [hkd]; rfl]
            exact fin 999993
        · dsimp only
          rw [z_w1_r, if_neg (by omega), z_w1_r, if_neg (by omega), g1]
        · dsimp only
          rw [z_w1_r, if_pos ⟨rfl, rfl⟩]
          unfold en
          rw [if_neg (by omega), if_neg cl, if_neg cd]
        · dsimp only
          rw [z_w1_r, if_neg (by omega), z_w1_r, if_pos ⟨rfl, rfl⟩]
        · dsimp only
          rw [z_w1_r, if_neg (by omega), z_w1_r, if_neg (by omega), g4]
        · dsimp only
          rw [z_w1_r, if_neg (by omega), z_w1_r, if_neg (by omega), g5]
          unfold nb
          rw [if_neg (by omega), if_neg cl, if_neg cd]
        · dsimp only
          rw [z_w1_r, if_neg (by omega), z_w1_r, if_neg (by omega), g6]
          unfold wd
          rw [if_neg (by omega), if_neg cl]
        · dsimp only
          rw [z_w1_r, if_neg (by omega), z_w1_r, if_neg (by omega), f1 a i h]
  · refine ⟨(z_w1 S1.1 23 3 (nI 0), S1.2), ?_, ⟨?_, ?_, ?_, ?_, ?_, ?_⟩, fun a i h => ?_, s2⟩
    · rw [e0, if_neg c, zq_61_162]
    · dsimp only
      rw [z_w1_r, if_neg (by omega), g1]
    · dsimp only
      rw [z_w1_r, if_neg (by omega), g2]
      unfold en
      rw [if_pos (by omega)]
    · dsimp only
      rw [z_w1_r, if_pos ⟨rfl, rfl⟩]
      unfold kd
      rw [if_pos (by omega)]
      rfl
    · dsimp only
      rw [z_w1_r, if_neg (by omega), g4]
    · dsimp only
      rw [z_w1_r, if_neg (by omega), g5]
      unfold nb
      rw [if_pos (by omega)]
    · dsimp only
      rw [z_w1_r, if_neg (by omega), g6]
      unfold wd
      rw [if_pos (by omega)]
    · dsimp only
      rw [z_w1_r, if_neg (by omega), f1 a i h]
end ADV
