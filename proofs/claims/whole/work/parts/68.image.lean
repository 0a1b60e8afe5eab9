/-! image and restore -/
def unk (y : Nat) : Nat := if y < 45 then y - 37 else y - 25
def isL (x : Nat) : Prop := 4 ≤ x ∧ x ≤ 7 ∨ 20 ≤ x ∧ x ≤ 39
def imgA (A : aS) : aS := fun y k => if y = 8 then 1 else if 41 ≤ y ∧ y ≤ 64 then A (unk y) k else if y = 66 then A 65 k else A y k
def resA (A : aS) : aS := fun y k => if 4 ≤ y ∧ y ≤ 7 ∨ 20 ≤ y ∧ y ≤ 39 ∨ y = 65 then A (kx y) k else A y k
theorem cond_t {α : Type} {c : Bool} {a b : α} (h : c = true) : cond c a b = a := by rw [h]; rfl
theorem cpc {a b N : Nat} {k : Int32} {m : Nat} (hk : k = iI (m : Int)) (hm : m ≤ N) (hN : N < 2147483648) (h1 : Nat.beq (z_at a) (z_at b) = true) (h2 : Nat.beq a b = false) (h3 : z_ln a = N) (h4 : z_ln b = N) : (Nat.beq (z_at a) (z_at b) && !(Nat.beq a b) && !(decide ((nI 0) < 0)) && !(decide ((nI 0) < 0)) && !(decide (k < 0)) && decide ((nI 0).toNatClampNeg + k.toNatClampNeg ≤ z_ln a) && decide ((nI 0).toNatClampNeg + k.toNatClampNeg ≤ z_ln b)) = true := by
  have e0 : (nI 0).toNatClampNeg = 0 := by decide +kernel
  have e1 : decide ((nI 0 : Int32) < 0) = false := by decide +kernel
  have e2 : decide (k < 0) = false := by
    rw [hk, iI_0]
    exact decide_eq_false (by rw [iI_lt (by omega) (by omega) (by decide) (by decide)]; omega)
  rw [h1, h2, h3, h4, e1, e2, e0, hk, tN (by omega), decide_eq_true (by omega)]
  rfl
theorem c1r {M : z_Mi} {a b k c i : Nat} : z_c1 M a b 0 0 k c i = if c = b ∧ i < k then M a i else M c i := by
  unfold z_c1
  by_cases h : c = b
  · subst h
    rw [if_pos rfl]
    unfold va_cpy
    by_cases h2 : i < k
    · rw [if_pos (by omega), if_pos ⟨rfl, h2⟩, Nat.zero_add, Nat.sub_zero]
    · rw [if_neg (by omega), if_neg (by omega)]
  · rw [if_neg h, if_neg (fun e => h e.1)]
theorem c2r {M : z_Ml} {a b k c i : Nat} : z_c2 M a b 0 0 k c i = if c = b ∧ i < k then M a i else M c i := by
  unfold z_c2
  by_cases h : c = b
  · subst h
    rw [if_pos rfl]
    unfold va_cpy
    by_cases h2 : i < k
    · rw [if_pos (by omega), if_pos ⟨rfl, h2⟩, Nat.zero_add, Nat.sub_zero]
    · rw [if_neg (by omega), if_neg (by omega)]
  · rw [if_neg h, if_neg (fun e => h e.1)]
def cpa (n l : Nat) (S : z_St) : z_St := ((z_c1 (z_c1 (z_c1 (z_c1 (z_c1 (z_c1 (z_c1 (z_c1 (z_c1 (z_c1 (z_c1 (z_c1 (z_w1 (z_w1 (z_w1 (z_w1 S.1 38 0 (S.1 24 0)) 38 2 (S.1 24 2)) 38 10 (S.1 24 10)) 38 12 (S.1 24 12)) 25 39 0 0 (6 * n)) 26 40 0 0 (10)) 27 41 0 0 (8)) 28 42 0 0 (80)) 29 43 0 0 (80)) 30 44 0 0 (80)) 31 45 0 0 (80)) 33 47 0 0 (4 * l)) 34 48 0 0 (7)) 35 49 0 0 (7)) 36 50 0 0 (60)) 37 51 0 0 (5)), z_c2 S.2 32 46 0 0 560)
theorem cpa_e {n l d : Nat} {S : z_St} (hn : S.1 24 0 = iI (n : Int)) (h1 : n ≤ 200) (hl : S.1 24 10 = iI (l : Int)) (h2 : l ≤ 24) : z_ew (d + 1) 6 [.ref 38, .ref 24] S = some (.inl none, cpa n l S) := by
  have hn2 : S.1 24 0 * nI 6 = iI ((6 * n : Nat) : Int) := by rw [hn, iI_n, iI_mul]; congr 1; omega
  have hl2 : S.1 24 10 * nI 4 = iI ((4 * l : Nat) : Int) := by rw [hl, iI_n, iI_mul]; congr 1; omega
  rw [ze_6 d _ S rfl]
  show z_R6 d (999999 + 1) 0 0 [some (.ref 38), some (.ref 24)] [] S = _
  rw [zq_6_0a, hn2, hl2]
  refine (cond_t (cpc (N := 1200) (m := 6 * n) rfl (by omega) (by decide) rfl rfl rfl rfl)).trans ?_
  refine (cond_t (cpc (N := 10) (m := 10) (iI_n 10) (by omega) (by decide) rfl rfl rfl rfl)).trans ?_
  refine (cond_t (cpc (N := 8) (m := 8) (iI_n 8) (by omega) (by decide) rfl rfl rfl rfl)).trans ?_
  refine (cond_t (cpc (N := 80) (m := 80) (iI_n 80) (by omega) (by decide) rfl rfl rfl rfl)).trans ?_
  refine (cond_t (cpc (N := 80) (m := 80) (iI_n 80) (by omega) (by decide) rfl rfl rfl rfl)).trans ?_
  refine (cond_t (cpc (N := 80) (m := 80) (iI_n 80) (by omega) (by decide) rfl rfl rfl rfl)).trans ?_
  refine (cond_t (cpc (N := 80) (m := 80) (iI_n 80) (by omega) (by decide) rfl rfl rfl rfl)).trans ?_
  refine (cond_t (cpc (N := 560) (m := 560) (iI_n 560) (by omega) (by decide) rfl rfl rfl rfl)).trans ?_
  refine (cond_t (cpc (N := 96) (m := 4 * l) rfl (by omega) (by decide) rfl rfl rfl rfl)).trans ?_
  refine (cond_t (cpc (N := 7) (m := 7) (iI_n 7) (by omega) (by decide) rfl rfl rfl rfl)).trans ?_
  refine (cond_t (cpc (N := 7) (m := 7) (iI_n 7) (by omega) (by decide) rfl rfl rfl rfl)).trans ?_
  refine (cond_t (cpc (N := 60) (m := 60) (iI_n 60) (by omega) (by decide) rfl rfl rfl rfl)).trans ?_
  refine (cond_t (cpc (N := 5) (m := 5) (iI_n 5) (by omega) (by decide) rfl rfl rfl rfl)).trans ?_
  have e0 : (nI 0).toNatClampNeg = 0 := by decide +kernel
  rw [e0, tN (by omega), tN (by omega), nI_clamp (by decide), nI_clamp (by decide), nI_clamp (by decide), nI_clamp (by decide), nI_clamp (by decide), nI_clamp (by decide), nI_clamp (by decide)]
  rfl
theorem cpa_o {n l : Nat} {S : z_St} {a : Nat} (h : a < 38 ∨ 51 < a) : (cpa n l S).1 a = S.1 a ∧ (cpa n l S).2 a = S.2 a := by
  refine ⟨?_, ?_⟩
  · funext i
    unfold cpa
    dsimp only
    rw [c1r, if_neg (by omega), c1r, if_neg (by omega), c1r, if_neg (by omega), c1r, if_neg (by omega), c1r, if_neg (by omega), c1r, if_neg (by omega), c1r, if_neg (by omega), c1r, if_neg (by omega), c1r, if_neg (by omega), c1r, if_neg (by omega), c1r, if_neg (by omega), c1r, if_neg (by omega), z_w1_r, if_neg (by omega), z_w1_r, if_neg (by omega), z_w1_r, if_neg (by omega), z_w1_r, if_neg (by omega)]
  · funext i
    unfold cpa
    dsimp only
    rw [c2r, if_neg (by omega)]
theorem cpa_f0 {n l : Nat} {S : z_St} : (cpa n l S).1 38 0 = S.1 24 0 := by
  unfold cpa
  dsimp only
  rw [c1r, if_neg (by omega), c1r, if_neg (by omega), c1r, if_neg (by omega), c1r, if_neg (by omega), c1r, if_neg (by omega), c1r, if_neg (by omega), c1r, if_neg (by omega), c1r, if_neg (by omega), c1r, if_neg (by omega), c1r, if_neg (by omega), c1r, if_neg (by omega), c1r, if_neg (by omega), z_w1_r, if_neg (by omega), z_w1_r, if_neg (by omega), z_w1_r, if_neg (by omega), z_w1_r, if_pos ⟨rfl, rfl⟩]
theorem cpa_f2 {n l : Nat} {S : z_St} : (cpa n l S).1 38 2 = S.1 24 2 := by
  unfold cpa
  dsimp only
  rw [c1r, if_neg (by omega), c1r, if_neg (by omega), c1r, if_neg (by omega), c1r, if_neg (by omega), c1r, if_neg (by omega), c1r, if_neg (by omega), c1r, if_neg (by omega), c1r, if_neg (by omega), c1r, if_neg (by omega), c1r, if_neg (by omega), c1r, if_neg (by omega), c1r, if_neg (by omega), z_w1_r, if_neg (by omega), z_w1_r, if_neg (by omega), z_w1_r, if_pos ⟨rfl, rfl⟩]
theorem cpa_f10 {n l : Nat} {S : z_St} : (cpa n l S).1 38 10 = S.1 24 10 := by
  unfold cpa
  dsimp only
  rw [c1r, if_neg (by omega), c1r, if_neg (by omega), c1r, if_neg (by omega), c1r, if_neg (by omega), c1r, if_neg (by omega), c1r, if_neg (by omega), c1r, if_neg (by omega), c1r, if_neg (by omega), c1r, if_neg (by omega), c1r, if_neg (by omega), c1r, if_neg (by omega), c1r, if_neg (by omega), z_w1_r, if_neg (by omega), z_w1_r, if_pos ⟨rfl, rfl⟩]
theorem cpa_f12 {n l : Nat} {S : z_St} : (cpa n l S).1 38 12 = S.1 24 12 := by
  unfold cpa
  dsimp only
  rw [c1r, if_neg (by omega), c1r, if_neg (by omega), c1r, if_neg (by omega), c1r, if_neg (by omega), c1r, if_neg (by omega), c1r, if_neg (by omega), c1r, if_neg (by omega), c1r, if_neg (by omega), c1r, if_neg (by omega), c1r, if_neg (by omega), c1r, if_neg (by omega), c1r, if_neg (by omega), z_w1_r, if_pos ⟨rfl, rfl⟩]
theorem cpa_a25 {n l i : Nat} {S : z_St} (h : i < 6 * n) : (cpa n l S).1 39 i = S.1 25 i := by
  unfold cpa
  dsimp only
  rw [c1r, if_neg (by omega), c1r, if_neg (by omega), c1r, if_neg (by omega), c1r, if_neg (by omega), c1r, if_neg (by omega), c1r, if_neg (by omega), c1r, if_neg (by omega), c1r, if_neg (by omega), c1r, if_neg (by omega), c1r, if_neg (by omega), c1r, if_neg (by omega), c1r, if_pos ⟨rfl, h⟩, z_w1_r, if_neg (by omega), z_w1_r, if_neg (by omega), z_w1_r, if_neg (by omega), z_w1_r, if_neg (by omega)]
theorem cpa_a26 {n l i : Nat} {S : z_St} (h : i < 10) : (cpa n l S).1 40 i = S.1 26 i := by
  unfold cpa
  dsimp only
  rw [c1r, if_neg (by omega), c1r, if_neg (by omega), c1r, if_neg (by omega), c1r, if_neg (by omega), c1r, if_neg (by omega), c1r, if_neg (by omega), c1r, if_neg (by omega), c1r, if_neg (by omega), c1r, if_neg (by omega), c1r, if_neg (by omega), c1r, if_pos ⟨rfl, h⟩, c1r, if_neg (by omega), z_w1_r, if_neg (by omega), z_w1_r, if_neg (by omega), z_w1_r, if_neg (by omega), z_w1_r, if_neg (by omega)]
theorem cpa_a27 {n l i : Nat} {S : z_St} (h : i < 8) : (cpa n l S).1 41 i = S.1 27 i := by
  unfold cpa
  dsimp only
  rw [c1r, if_neg (by omega), c1r, if_neg (by omega), c1r, if_neg (by omega), c1r, if_neg (by omega), c1r, if_neg (by omega), c1r, if_neg (by omega), c1r, if_neg (by omega), c1r, if_neg (by omega), c1r, if_neg (by omega), c1r, if_pos ⟨rfl, h⟩, c1r, if_neg (by omega), c1r, if_neg (by omega), z_w1_r, if_neg (by omega), z_w1_r, if_neg (by omega), z_w1_r, if_neg (by omega), z_w1_r, if_neg (by omega)]
theorem cpa_a28 {n l i : Nat} {S : z_St} (h : i < 80) : (cpa n l S).1 42 i = S.1 28 i := by
  unfold cpa
  dsimp only
  rw [c1r, if_neg (by omega), c1r, if_neg (by omega), c1r, if_neg (by omega), c1r, if_neg (by omega), c1r, if_neg (by omega), c1r, if_neg (by omega), c1r, if_neg (by omega), c1r, if_neg (by omega), c1r, if_pos ⟨rfl, h⟩, c1r, if_neg (by omega), c1r, if_neg (by omega), c1r, if_neg (by omega), z_w1_r, if_neg (by omega), z_w1_r, if_neg (by omega), z_w1_r, if_neg (by omega), z_w1_r, if_neg (by omega)]
theorem cpa_a29 {n l i : Nat} {S : z_St} (h : i < 80) : (cpa n l S).1 43 i = S.1 29 i := by
  unfold cpa
  dsimp only
  rw [c1r, if_neg (by omega), c1r, if_neg (by omega), c1r, if_neg (by omega), c1r, if_neg (by omega), c1r, if_neg (by omega), c1r, if_neg (by omega), c1r, if_neg (by omega), c1r, if_pos ⟨rfl, h⟩, c1r, if_neg (by omega), c1r, if_neg (by omega), c1r, if_neg (by omega), c1r, if_neg (by omega), z_w1_r, if_neg (by omega), z_w1_r, if_neg (by omega), z_w1_r, if_neg (by omega), z_w1_r, if_neg (by omega)]
theorem cpa_a30 {n l i : Nat} {S : z_St} (h : i < 80) : (cpa n l S).1 44 i = S.1 30 i := by
  unfold cpa
  dsimp only
  rw [c1r, if_neg (by omega), c1r, if_neg (by omega), c1r, if_neg (by omega), c1r, if_neg (by omega), c1r, if_neg (by omega), c1r, if_neg (by omega), c1r, if_pos ⟨rfl, h⟩, c1r, if_neg (by omega), c1r, if_neg (by omega), c1r, if_neg (by omega), c1r, if_neg (by omega), c1r, if_neg (by omega), z_w1_r, if_neg (by omega), z_w1_r, if_neg (by omega), z_w1_r, if_neg (by omega), z_w1_r, if_neg (by omega)]
theorem cpa_a31 {n l i : Nat} {S : z_St} (h : i < 80) : (cpa n l S).1 45 i = S.1 31 i := by
  unfold cpa
  dsimp only
  rw [c1r, if_neg (by omega), c1r, if_neg (by omega), c1r, if_neg (by omega), c1r, if_neg (by omega), c1r, if_neg (by omega), c1r, if_pos ⟨rfl, h⟩, c1r, if_neg (by omega), c1r, if_neg (by omega), c1r, if_neg (by omega), c1r, if_neg (by omega), c1r, if_neg (by omega), c1r, if_neg (by omega), z_w1_r, if_neg (by omega), z_w1_r, if_neg (by omega), z_w1_r, if_neg (by omega), z_w1_r, if_neg (by omega)]
theorem cpa_a33 {n l i : Nat} {S : z_St} (h : i < 4 * l) : (cpa n l S).1 47 i = S.1 33 i := by
  unfold cpa
  dsimp only
  rw [c1r, if_neg (by omega), c1r, if_neg (by omega), c1r, if_neg (by omega), c1r, if_neg (by omega), c1r, if_pos ⟨rfl, h⟩, c1r, if_neg (by omega), c1r, if_neg (by omega), c1r, if_neg (by omega), c1r, if_neg (by omega), c1r, if_neg (by omega), c1r, if_neg (by omega), c1r, if_neg (by omega), z_w1_r, if_neg (by omega), z_w1_r, if_neg (by omega), z_w1_r, if_neg (by omega), z_w1_r, if_neg (by omega)]
theorem cpa_a34 {n l i : Nat} {S : z_St} (h : i < 7) : (cpa n l S).1 48 i = S.1 34 i := by
  unfold cpa
  dsimp only
  rw [c1r, if_neg (by omega), c1r, if_neg (by omega), c1r, if_neg (by omega), c1r, if_pos ⟨rfl, h⟩, c1r, if_neg (by omega), c1r, if_neg (by omega), c1r, if_neg (by omega), c1r, if_neg (by omega), c1r, if_neg (by omega), c1r, if_neg (by omega), c1r, if_neg (by omega), c1r, if_neg (by omega), z_w1_r, if_neg (by omega), z_w1_r, if_neg (by omega), z_w1_r, if_neg (by omega), z_w1_r, if_neg (by omega)]
theorem cpa_a35 {n l i : Nat} {S : z_St} (h : i < 7) : (cpa n l S).1 49 i = S.1 35 i := by
  unfold cpa
  dsimp only
  rw [c1r, if_neg (by omega), c1r, if_neg (by omega), c1r, if_pos ⟨rfl, h⟩, c1r, if_neg (by omega), c1r, if_neg (by omega), c1r, if_neg (by omega), c1r, if_neg (by omega), c1r, if_neg (by omega), c1r, if_neg (by omega), c1r, if_neg (by omega), c1r, if_neg (by omega), c1r, if_neg (by omega), z_w1_r, if_neg (by omega), z_w1_r, if_neg (by omega), z_w1_r, if_neg (by omega), z_w1_r, if_neg (by omega)]
theorem cpa_a36 {n l i : Nat} {S : z_St} (h : i < 60) : (cpa n l S).1 50 i = S.1 36 i := by
  unfold cpa
  dsimp only
  rw [c1r, if_neg (by omega), c1r, if_pos ⟨rfl, h⟩, c1r, if_neg (by omega), c1r, if_neg (by omega), c1r, if_neg (by omega), c1r, if_neg (by omega), c1r, if_neg (by omega), c1r, if_neg (by omega), c1r, if_neg (by omega), c1r, if_neg (by omega), c1r, if_neg (by omega), c1r, if_neg (by omega), z_w1_r, if_neg (by omega), z_w1_r, if_neg (by omega), z_w1_r, if_neg (by omega), z_w1_r, if_neg (by omega)]
theorem cpa_a37 {n l i : Nat} {S : z_St} (h : i < 5) : (cpa n l S).1 51 i = S.1 37 i := by
  unfold cpa
  dsimp only
  rw [c1r, if_pos ⟨rfl, h⟩, c1r, if_neg (by omega), c1r, if_neg (by omega), c1r, if_neg (by omega), c1r, if_neg (by omega), c1r, if_neg (by omega), c1r, if_neg (by omega), c1r, if_neg (by omega), c1r, if_neg (by omega), c1r, if_neg (by omega), c1r, if_neg (by omega), c1r, if_neg (by omega), z_w1_r, if_neg (by omega), z_w1_r, if_neg (by omega), z_w1_r, if_neg (by omega), z_w1_r, if_neg (by omega)]
theorem cpa_l {n l i : Nat} {S : z_St} (h : i < 560) : (cpa n l S).2 46 i = S.2 32 i := by
  unfold cpa
  dsimp only
  rw [c2r, if_pos ⟨rfl, h⟩]
def cpb (n l : Nat) (S : z_St) : z_St := ((z_c1 (z_c1 (z_c1 (z_c1 (z_c1 (z_c1 (z_c1 (z_c1 (z_c1 (z_c1 (z_c1 (z_c1 (z_w1 (z_w1 (z_w1 (z_w1 S.1 24 0 (S.1 38 0)) 24 2 (S.1 38 2)) 24 10 (S.1 38 10)) 24 12 (S.1 38 12)) 39 25 0 0 (6 * n)) 40 26 0 0 (10)) 41 27 0 0 (8)) 42 28 0 0 (80)) 43 29 0 0 (80)) 44 30 0 0 (80)) 45 31 0 0 (80)) 47 33 0 0 (4 * l)) 48 34 0 0 (7)) 49 35 0 0 (7)) 50 36 0 0 (60)) 51 37 0 0 (5)), z_c2 S.2 46 32 0 0 560)
theorem cpb_e {n l d : Nat} {S : z_St} (hn : S.1 38 0 = iI (n : Int)) (h1 : n ≤ 200) (hl : S.1 38 10 = iI (l : Int)) (h2 : l ≤ 24) : z_ew (d + 1) 6 [.ref 24, .ref 38] S = some (.inl none, cpb n l S) := by
  have hn2 : S.1 38 0 * nI 6 = iI ((6 * n : Nat) : Int) := by rw [hn, iI_n, iI_mul]; congr 1; omega
  have hl2 : S.1 38 10 * nI 4 = iI ((4 * l : Nat) : Int) := by rw [hl, iI_n, iI_mul]; congr 1; omega
  rw [ze_6 d _ S rfl]
  show z_R6 d (999999 + 1) 0 0 [some (.ref 24), some (.ref 38)] [] S = _
  rw [zq_6_0b, hn2, hl2]
  refine (cond_t (cpc (N := 1200) (m := 6 * n) rfl (by omega) (by decide) rfl rfl rfl rfl)).trans ?_
  refine (cond_t (cpc (N := 10) (m := 10) (iI_n 10) (by omega) (by decide) rfl rfl rfl rfl)).trans ?_
  refine (cond_t (cpc (N := 8) (m := 8) (iI_n 8) (by omega) (by decide) rfl rfl rfl rfl)).trans ?_
  refine (cond_t (cpc (N := 80) (m := 80) (iI_n 80) (by omega) (by decide) rfl rfl rfl rfl)).trans ?_
  refine (cond_t (cpc (N := 80) (m := 80) (iI_n 80) (by omega) (by decide) rfl rfl rfl rfl)).trans ?_
  refine (cond_t (cpc (N := 80) (m := 80) (iI_n 80) (by omega) (by decide) rfl rfl rfl rfl)).trans ?_
  refine (cond_t (cpc (N := 80) (m := 80) (iI_n 80) (by omega) (by decide) rfl rfl rfl rfl)).trans ?_
  refine (cond_t (cpc (N := 560) (m := 560) (iI_n 560) (by omega) (by decide) rfl rfl rfl rfl)).trans ?_
  refine (cond_t (cpc (N := 96) (m := 4 * l) rfl (by omega) (by decide) rfl rfl rfl rfl)).trans ?_
  refine (cond_t (cpc (N := 7) (m := 7) (iI_n 7) (by omega) (by decide) rfl rfl rfl rfl)).trans ?_
  refine (cond_t (cpc (N := 7) (m := 7) (iI_n 7) (by omega) (by decide) rfl rfl rfl rfl)).trans ?_
  refine (cond_t (cpc (N := 60) (m := 60) (iI_n 60) (by omega) (by decide) rfl rfl rfl rfl)).trans ?_
  refine (cond_t (cpc (N := 5) (m := 5) (iI_n 5) (by omega) (by decide) rfl rfl rfl rfl)).trans ?_
  have e0 : (nI 0).toNatClampNeg = 0 := by decide +kernel
  rw [e0, tN (by omega), tN (by omega), nI_clamp (by decide), nI_clamp (by decide), nI_clamp (by decide), nI_clamp (by decide), nI_clamp (by decide), nI_clamp (by decide), nI_clamp (by decide)]
  rfl
theorem cpb_o {n l : Nat} {S : z_St} {a : Nat} (h : a < 24 ∨ 37 < a) : (cpb n l S).1 a = S.1 a ∧ (cpb n l S).2 a = S.2 a := by
  refine ⟨?_, ?_⟩
  · funext i
    unfold cpb
    dsimp only
    rw [c1r, if_neg (by omega), c1r, if_neg (by omega), c1r, if_neg (by omega), c1r, if_neg (by omega), c1r, if_neg (by omega), c1r, if_neg (by omega), c1r, if_neg (by omega), c1r, if_neg (by omega), c1r, if_neg (by omega), c1r, if_neg (by omega), c1r, if_neg (by omega), c1r, if_neg (by omega), z_w1_r, if_neg (by omega), z_w1_r, if_neg (by omega), z_w1_r, if_neg (by omega), z_w1_r, if_neg (by omega)]
  · funext i
    unfold cpb
    dsimp only
    rw [c2r, if_neg (by omega)]
theorem cpb_f0 {n l : Nat} {S : z_St} : (cpb n l S).1 24 0 = S.1 38 0 := by
  unfold cpb
  dsimp only
  rw [c1r, if_neg (by omega), c1r, if_neg (by omega), c1r, if_neg (by omega), c1r, if_neg (by omega), c1r, if_neg (by omega), c1r, if_neg (by omega), c1r, if_neg (by omega), c1r, if_neg (by omega), c1r, if_neg (by omega), c1r, if_neg (by omega), c1r, if_neg (by omega), c1r, if_neg (by omega), z_w1_r, if_neg (by omega), z_w1_r, if_neg (by omega), z_w1_r, if_neg (by omega), z_w1_r, if_pos ⟨rfl, rfl⟩]
theorem cpb_f2 {n l : Nat} {S : z_St} : (cpb n l S).1 24 2 = S.1 38 2 := by
  unfold cpb
  dsimp only
  rw [c1r, if_neg (by omega), c1r, if_neg (by omega), c1r, if_neg (by omega), c1r, if_neg (by omega), c1r, if_neg (by omega), c1r, if_neg (by omega), c1r, if_neg (by omega), c1r, if_neg (by omega), c1r, if_neg (by omega), c1r, if_neg (by omega), c1r, if_neg (by omega), c1r, if_neg (by omega), z_w1_r, if_neg (by omega), z_w1_r, if_neg (by omega), z_w1_r, if_pos ⟨rfl, rfl⟩]
theorem cpb_f10 {n l : Nat} {S : z_St} : (cpb n l S).1 24 10 = S.1 38 10 := by
  unfold cpb
  dsimp only
  rw [c1r, if_neg (by omega), c1r, if_neg (by omega), c1r, if_neg (by omega), c1r, if_neg (by omega), c1r, if_neg (by omega), c1r, if_neg (by omega), c1r, if_neg (by omega), c1r, if_neg (by omega), c1r, if_neg (by omega), c1r, if_neg (by omega), c1r, if_neg (by omega), c1r, if_neg (by omega), z_w1_r, if_neg (by omega), z_w1_r, if_pos ⟨rfl, rfl⟩]
theorem cpb_f12 {n l : Nat} {S : z_St} : (cpb n l S).1 24 12 = S.1 38 12 := by
  unfold cpb
  dsimp only
  rw [c1r, if_neg (by omega), c1r, if_neg (by omega), c1r, if_neg (by omega), c1r, if_neg (by omega), c1r, if_neg (by omega), c1r, if_neg (by omega), c1r, if_neg (by omega), c1r, if_neg (by omega), c1r, if_neg (by omega), c1r, if_neg (by omega), c1r, if_neg (by omega), c1r, if_neg (by omega), z_w1_r, if_pos ⟨rfl, rfl⟩]
theorem cpb_a25 {n l i : Nat} {S : z_St} (h : i < 6 * n) : (cpb n l S).1 25 i = S.1 39 i := by
  unfold cpb
  dsimp only
  rw [c1r, if_neg (by omega), c1r, if_neg (by omega), c1r, if_neg (by omega), c1r, if_neg (by omega), c1r, if_neg (by omega), c1r, if_neg (by omega), c1r, if_neg (by omega), c1r, if_neg (by omega), c1r, if_neg (by omega), c1r, if_neg (by omega), c1r, if_neg (by omega), c1r, if_pos ⟨rfl, h⟩, z_w1_r, if_neg (by omega), z_w1_r, if_neg (by omega), z_w1_r, if_neg (by omega), z_w1_r, if_neg (by omega)]
theorem cpb_a26 {n l i : Nat} {S : z_St} (h : i < 10) : (cpb n l S).1 26 i = S.1 40 i := by
  unfold cpb
  dsimp only
  rw [c1r, if_neg (by omega), c1r, if_neg (by omega), c1r, if_neg (by omega), c1r, if_neg (by omega), c1r, if_neg (by omega), c1r, if_neg (by omega), c1r, if_neg (by omega), c1r, if_neg (by omega), c1r, if_neg (by omega), c1r, if_neg (by omega), c1r, if_pos ⟨rfl, h⟩, c1r, if_neg (by omega), z_w1_r, if_neg (by omega), z_w1_r, if_neg (by omega), z_w1_r, if_neg (by omega), z_w1_r, if_neg (by omega)]
theorem cpb_a27 {n l i : Nat} {S : z_St} (h : i < 8) : (cpb n l S).1 27 i = S.1 41 i := by
  unfold cpb
  dsimp only
  rw [c1r, if_neg (by omega), c1r, if_neg (by omega), c1r, if_neg (by omega), c1r, if_neg (by omega), c1r, if_neg (by omega), c1r, if_neg (by omega), c1r, if_neg (by omega), c1r, if_neg (by omega), c1r, if_neg (by omega), c1r, if_pos ⟨rfl, h⟩, c1r, if_neg (by omega), c1r, if_neg (by omega), z_w1_r, if_neg (by omega), z_w1_r, if_neg (by omega), z_w1_r, if_neg (by omega), z_w1_r, if_neg (by omega)]
theorem cpb_a28 {n l i : Nat} {S : z_St} (h : i < 80) : (cpb n l S).1 28 i = S.1 42 i := by
  unfold cpb
  dsimp only
  rw [c1r, if_neg (by omega), c1r, if_neg (by omega), c1r, if_neg (by omega), c1r, if_neg (by omega), c1r, if_neg (by omega), c1r, if_neg (by omega), c1r, if_neg (by omega), c1r, if_neg (by omega), c1r, if_pos ⟨rfl, h⟩, c1r, if_neg (by omega), c1r, if_neg (by omega), c1r, if_neg (by omega), z_w1_r, if_neg (by omega), z_w1_r, if_neg (by omega), z_w1_r, if_neg (by omega), z_w1_r, if_neg (by omega)]
theorem cpb_a29 {n l i : Nat} {S : z_St} (h : i < 80) : (cpb n l S).1 29 i = S.1 43 i := by
  unfold cpb
  dsimp only
  rw [c1r, if_neg (by omega), c1r, if_neg (by omega), c1r, if_neg (by omega), c1r, if_neg (by omega), c1r, if_neg (by omega), c1r, if_neg (by omega), c1r, if_neg (by omega), c1r, if_pos ⟨rfl, h⟩, c1r, if_neg (by omega), c1r, if_neg (by omega), c1r, if_neg (by omega), c1r, if_neg (by omega), z_w1_r, if_neg (by omega), z_w1_r, if_neg (by omega), z_w1_r, if_neg (by omega), z_w1_r, if_neg (by omega)]
theorem cpb_a30 {n l i : Nat} {S : z_St} (h : i < 80) : (cpb n l S).1 30 i = S.1 44 i := by
  unfold cpb
  dsimp only
  rw [c1r, if_neg (by omega), c1r, if_neg (by omega), c1r, if_neg (by omega), c1r, if_neg (by omega), c1r, if_neg (by omega), c1r, if_neg (by omega), c1r, if_pos ⟨rfl, h⟩, c1r, if_neg (by omega), c1r, if_neg (by omega), c1r, if_neg (by omega), c1r, if_neg (by omega), c1r, if_neg (by omega), z_w1_r, if_neg (by omega), z_w1_r, if_neg (by omega), z_w1_r, if_neg (by omega), z_w1_r, if_neg (by omega)]
theorem cpb_a31 {n l i : Nat} {S : z_St} (h : i < 80) : (cpb n l S).1 31 i = S.1 45 i := by
  unfold cpb
  dsimp only
  rw [c1r, if_neg (by omega), c1r, if_neg (by omega), c1r, if_neg (by omega), c1r, if_neg (by omega), c1r, if_neg (by omega), c1r, if_pos ⟨rfl, h⟩, c1r, if_neg (by omega), c1r, if_neg (by omega), c1r, if_neg (by omega), c1r, if_neg (by omega), c1r, if_neg (by omega), c1r, if_neg (by omega), z_w1_r, if_neg (by omega), z_w1_r, if_neg (by omega), z_w1_r, if_neg (by omega), z_w1_r, if_neg (by omega)]
theorem cpb_a33 {n l i : Nat} {S : z_St} (h : i < 4 * l) : (cpb n l S).1 33 i = S.1 47 i := by
  unfold cpb
  dsimp only
  rw [c1r, if_neg (by omega), c1r, if_neg (by omega), c1r, if_neg (by omega), c1r, if_neg (by omega), c1r, if_pos ⟨rfl, h⟩, c1r, if_neg (by omega), c1r, if_neg (by omega), c1r, if_neg (by omega), c1r, if_neg (by omega), c1r, if_neg (by omega), c1r, if_neg (by omega), c1r, if_neg (by omega), z_w1_r, if_neg (by omega), z_w1_r, if_neg (by omega), z_w1_r, if_neg (by omega), z_w1_r, if_neg (by omega)]
theorem cpb_a34 {n l i : Nat} {S : z_St} (h : i < 7) : (cpb n l S).1 34 i = S.1 48 i := by
  unfold cpb
  dsimp only
  rw [c1r, if_neg (by omega), c1r, if_neg (by omega), c1r, if_neg (by omega), c1r, if_pos ⟨rfl, h⟩, c1r, if_neg (by omega), c1r, if_neg (by omega), c1r, if_neg (by omega), c1r, if_neg (by omega), c1r, if_neg (by omega), c1r, if_neg (by omega), c1r, if_neg (by omega), c1r, if_neg (by omega), z_w1_r, if_neg (by omega), z_w1_r, if_neg (by omega), z_w1_r, if_neg (by omega), z_w1_r, if_neg (by omega)]
theorem cpb_a35 {n l i : Nat} {S : z_St} (h : i < 7) : (cpb n l S).1 35 i = S.1 49 i := by
  unfold cpb
  dsimp only
  rw [c1r, if_neg (by omega), c1r, if_neg (by omega), c1r, if_pos ⟨rfl, h⟩, c1r, if_neg (by omega), c1r, if_neg (by omega), c1r, if_neg (by omega), c1r, if_neg (by omega), c1r, if_neg (by omega), c1r, if_neg (by omega), c1r, if_neg (by omega), c1r, if_neg (by omega), c1r, if_neg (by omega), z_w1_r, if_neg (by omega), z_w1_r, if_neg (by omega), z_w1_r, if_neg (by omega), z_w1_r, if_neg (by omega)]
theorem cpb_a36 {n l i : Nat} {S : z_St} (h : i < 60) : (cpb n l S).1 36 i = S.1 50 i := by
  unfold cpb
  dsimp only
  rw [c1r, if_neg (by omega), c1r, if_pos ⟨rfl, h⟩, c1r, if_neg (by omega), c1r, if_neg (by omega), c1r, if_neg (by omega), c1r, if_neg (by omega), c1r, if_neg (by omega), c1r, if_neg (by omega), c1r, if_neg (by omega), c1r, if_neg (by omega), c1r, if_neg (by omega), c1r, if_neg (by omega), z_w1_r, if_neg (by omega), z_w1_r, if_neg (by omega), z_w1_r, if_neg (by omega), z_w1_r, if_neg (by omega)]
theorem cpb_a37 {n l i : Nat} {S : z_St} (h : i < 5) : (cpb n l S).1 37 i = S.1 51 i := by
  unfold cpb
  dsimp only
  rw [c1r, if_pos ⟨rfl, h⟩, c1r, if_neg (by omega), c1r, if_neg (by omega), c1r, if_neg (by omega), c1r, if_neg (by omega), c1r, if_neg (by omega), c1r, if_neg (by omega), c1r, if_neg (by omega), c1r, if_neg (by omega), c1r, if_neg (by omega), c1r, if_neg (by omega), c1r, if_neg (by omega), z_w1_r, if_neg (by omega), z_w1_r, if_neg (by omega), z_w1_r, if_neg (by omega), z_w1_r, if_neg (by omega)]
theorem cpb_l {n l i : Nat} {S : z_St} (h : i < 560) : (cpb n l S).2 32 i = S.2 46 i := by
  unfold cpb
  dsimp only
  rw [c2r, if_pos ⟨rfl, h⟩]
theorem cpa_x {p : Nat} {A : aS} {S : z_St} (hw : wf A) {n l x j : Nat} (hn : A 4 0 = n) (hl : A 6 0 = l) (hx : isL x) (hj : j < dD A x) : (cpa n l S).1 (ci p x + 14) (cx x j) = S.1 (ci p x) (cx x j) := by
  have hx2 : x = 4 ∨ x = 5 ∨ x = 6 ∨ x = 7 ∨ x = 20 ∨ x = 21 ∨ x = 22 ∨ x = 23 ∨ x = 24 ∨ x = 25 ∨ x = 26 ∨ x = 27 ∨ x = 28 ∨ x = 29 ∨ x = 30 ∨ x = 31 ∨ x = 32 ∨ x = 33 ∨ x = 34 ∨ x = 35 ∨ x = 36 ∨ x = 37 ∨ x = 38 ∨ x = 39 := by unfold isL at hx; omega
  have h7 : A 7 0 ≤ 7 := hw.L.2.2.2.1.2
  rcases hx2 with rfl | rfl | rfl | rfl | rfl | rfl | rfl | rfl | rfl | rfl | rfl | rfl | rfl | rfl | rfl | rfl | rfl | rfl | rfl | rfl | rfl | rfl | rfl | rfl
  · have e : cx 4 j = 0 := by show 0 + 0 * j = _; omega
    rw [e]
    exact cpa_f0
  · have e : cx 5 j = 2 := by show 2 + 0 * j = _; omega
    rw [e]
    exact cpa_f2
  · have e : cx 6 j = 10 := by show 10 + 0 * j = _; omega
    rw [e]
    exact cpa_f10
  · have e : cx 7 j = 12 := by show 12 + 0 * j = _; omega
    rw [e]
    exact cpa_f12
  · have hj : j < 10 := hj
    exact cpa_a26 (i := (0 + 1 * j)) (by omega)
  · have hj : j < 8 := hj
    exact cpa_a27 (i := (0 + 1 * j)) (by omega)
  · have hj : j < 80 := hj
    exact cpa_a28 (i := ((j % 8) * 10 + j / 8)) (by omega)
  · have hj : j < 80 := hj
    exact cpa_a29 (i := ((j % 8) * 10 + j / 8)) (by omega)
  · have hj : j < 80 := hj
    exact cpa_a30 (i := ((j % 8) * 10 + j / 8)) (by omega)
  · have hj : j < 80 := hj
    exact cpa_a31 (i := ((j % 8) * 10 + j / 8)) (by omega)
  · have hj : j < (A 4 0).toNat := hj
    exact cpa_a25 (i := (0 + 6 * j)) (by omega)
  · have hj : j < (A 4 0).toNat := hj
    exact cpa_a25 (i := (1 + 6 * j)) (by omega)
  · have hj : j < (A 4 0).toNat := hj
    exact cpa_a25 (i := (2 + 6 * j)) (by omega)
  · have hj : j < (A 4 0).toNat := hj
    exact cpa_a25 (i := (3 + 6 * j)) (by omega)
  · have hj : j < (A 4 0).toNat := hj
    exact cpa_a25 (i := (4 + 6 * j)) (by omega)
  · have hj : j < (A 4 0).toNat := hj
    exact cpa_a25 (i := (5 + 6 * j)) (by omega)
  · have hj : j < (A 6 0).toNat := hj
    exact cpa_a33 (i := (0 + 4 * j)) (by omega)
  · have hj : j < (A 6 0).toNat := hj
    exact cpa_a33 (i := (1 + 4 * j)) (by omega)
  · have hj : j < (A 6 0).toNat := hj
    exact cpa_a33 (i := (2 + 4 * j)) (by omega)
  · have hj : j < (A 6 0).toNat := hj
    exact cpa_a33 (i := (3 + 4 * j)) (by omega)
  · have hj : j < (A 7 0).toNat := hj
    exact cpa_a34 (i := (0 + 1 * j)) (by omega)
  · have hj : j < (A 7 0).toNat := hj
    exact cpa_a35 (i := (0 + 1 * j)) (by omega)
  · have hj : j < 60 := hj
    exact cpa_a36 (i := (0 + 1 * j)) (by omega)
  · have hj : j < 5 := hj
    exact cpa_a37 (i := (0 + 1 * j)) (by omega)
theorem cpb_x {p : Nat} {A : aS} {S : z_St} (hk : LW A (kA A)) (h8 : A 8 0 = 1) {n l x j : Nat} (hn : A 41 0 = n) (hl : A 43 0 = l) (hx : isL x) (hj : j < dD A (kx x)) : (cpb n l S).1 (ci p x) (cx x j) = S.1 (ci p x + 14) (cx x j) := by
  have hx2 : x = 4 ∨ x = 5 ∨ x = 6 ∨ x = 7 ∨ x = 20 ∨ x = 21 ∨ x = 22 ∨ x = 23 ∨ x = 24 ∨ x = 25 ∨ x = 26 ∨ x = 27 ∨ x = 28 ∨ x = 29 ∨ x = 30 ∨ x = 31 ∨ x = 32 ∨ x = 33 ∨ x = 34 ∨ x = 35 ∨ x = 36 ∨ x = 37 ∨ x = 38 ∨ x = 39 := by unfold isL at hx; omega
  have h7 : A 44 0 ≤ 7 := hk.2.2.2.1.2
  have hq : ∀ (a b : Nat), (if A 8 0 = 0 then a else b) = b := fun a b => if_neg (by omega)
  rcases hx2 with rfl | rfl | rfl | rfl | rfl | rfl | rfl | rfl | rfl | rfl | rfl | rfl | rfl | rfl | rfl | rfl | rfl | rfl | rfl | rfl | rfl | rfl | rfl | rfl
  · have e : cx 4 j = 0 := by show 0 + 0 * j = _; omega
    rw [e]
    exact cpb_f0
  · have e : cx 5 j = 2 := by show 2 + 0 * j = _; omega
    rw [e]
    exact cpb_f2
  · have e : cx 6 j = 10 := by show 10 + 0 * j = _; omega
    rw [e]
    exact cpb_f10
  · have e : cx 7 j = 12 := by show 12 + 0 * j = _; omega
    rw [e]
    exact cpb_f12
  · have hj : j < (if A 8 0 = 0 then 0 else 10) := hj
    rw [hq] at hj
    exact cpb_a26 (i := (0 + 1 * j)) (by omega)
  · have hj : j < (if A 8 0 = 0 then 0 else 8) := hj
    rw [hq] at hj
    exact cpb_a27 (i := (0 + 1 * j)) (by omega)
  · have hj : j < (if A 8 0 = 0 then 0 else 80) := hj
    rw [hq] at hj
    exact cpb_a28 (i := ((j % 8) * 10 + j / 8)) (by omega)
  · have hj : j < (if A 8 0 = 0 then 0 else 80) := hj
    rw [hq] at hj
    exact cpb_a29 (i := ((j % 8) * 10 + j / 8)) (by omega)
  · have hj : j < (if A 8 0 = 0 then 0 else 80) := hj
    rw [hq] at hj
    exact cpb_a30 (i := ((j % 8) * 10 + j / 8)) (by omega)
  · have hj : j < (if A 8 0 = 0 then 0 else 80) := hj
    rw [hq] at hj
    exact cpb_a31 (i := ((j % 8) * 10 + j / 8)) (by omega)
  · have hj : j < (if A 8 0 = 0 then 0 else (A 41 0).toNat) := hj
    rw [hq] at hj
    exact cpb_a25 (i := (0 + 6 * j)) (by omega)
  · have hj : j < (if A 8 0 = 0 then 0 else (A 41 0).toNat) := hj
    rw [hq] at hj
    exact cpb_a25 (i := (1 + 6 * j)) (by omega)
  · have hj : j < (if A 8 0 = 0 then 0 else (A 41 0).toNat) := hj
    rw [hq] at hj
    exact cpb_a25 (i := (2 + 6 * j)) (by omega)
  · have hj : j < (if A 8 0 = 0 then 0 else (A 41 0).toNat) := hj
    rw [hq] at hj
    exact cpb_a25 (i := (3 + 6 * j)) (by omega)
  · have hj : j < (if A 8 0 = 0 then 0 else (A 41 0).toNat) := hj
    rw [hq] at hj
    exact cpb_a25 (i := (4 + 6 * j)) (by omega)
  · have hj : j < (if A 8 0 = 0 then 0 else (A 41 0).toNat) := hj
    rw [hq] at hj
    exact cpb_a25 (i := (5 + 6 * j)) (by omega)
  · have hj : j < (if A 8 0 = 0 then 0 else (A 43 0).toNat) := hj
    rw [hq] at hj
    exact cpb_a33 (i := (0 + 4 * j)) (by omega)
  · have hj : j < (if A 8 0 = 0 then 0 else (A 43 0).toNat) := hj
    rw [hq] at hj
    exact cpb_a33 (i := (1 + 4 * j)) (by omega)
  · have hj : j < (if A 8 0 = 0 then 0 else (A 43 0).toNat) := hj
    rw [hq] at hj
    exact cpb_a33 (i := (2 + 4 * j)) (by omega)
  · have hj : j < (if A 8 0 = 0 then 0 else (A 43 0).toNat) := hj
    rw [hq] at hj
    exact cpb_a33 (i := (3 + 4 * j)) (by omega)
  · have hj : j < (if A 8 0 = 0 then 0 else (A 44 0).toNat) := hj
    rw [hq] at hj
    exact cpb_a34 (i := (0 + 1 * j)) (by omega)
  · have hj : j < (if A 8 0 = 0 then 0 else (A 44 0).toNat) := hj
    rw [hq] at hj
    exact cpb_a35 (i := (0 + 1 * j)) (by omega)
  · have hj : j < (if A 8 0 = 0 then 0 else 60) := hj
    rw [hq] at hj
    exact cpb_a36 (i := (0 + 1 * j)) (by omega)
  · have hj : j < (if A 8 0 = 0 then 0 else 5) := hj
    rw [hq] at hj
    exact cpb_a37 (i := (0 + 1 * j)) (by omega)
theorem img_le {A : aS} : ∀ y, y < 41 → dD (imgA A) y = dD A y := by
  intro y hy
  have h : y = 0 ∨ y = 1 ∨ y = 2 ∨ y = 3 ∨ y = 4 ∨ y = 5 ∨ y = 6 ∨ y = 7 ∨ y = 8 ∨ y = 9 ∨ y = 10 ∨ y = 11 ∨ y = 12 ∨ y = 13 ∨ y = 14 ∨ y = 15 ∨ y = 16 ∨ y = 17 ∨ y = 18 ∨ y = 19 ∨ y = 20 ∨ y = 21 ∨ y = 22 ∨ y = 23 ∨ y = 24 ∨ y = 25 ∨ y = 26 ∨ y = 27 ∨ y = 28 ∨ y = 29 ∨ y = 30 ∨ y = 31 ∨ y = 32 ∨ y = 33 ∨ y = 34 ∨ y = 35 ∨ y = 36 ∨ y = 37 ∨ y = 38 ∨ y = 39 ∨ y = 40 := by omega
  rcases h with rfl | rfl | rfl | rfl | rfl | rfl | rfl | rfl | rfl | rfl | rfl | rfl | rfl | rfl | rfl | rfl | rfl | rfl | rfl | rfl | rfl | rfl | rfl | rfl | rfl | rfl | rfl | rfl | rfl | rfl | rfl | rfl | rfl | rfl | rfl | rfl | rfl | rfl | rfl | rfl | rfl <;> rfl
theorem img_gt {A : aS} : ∀ y, 41 ≤ y → y < 65 → dD (imgA A) y = dD A (unk y) := by
  intro y hy hy2
  have h : y = 41 ∨ y = 42 ∨ y = 43 ∨ y = 44 ∨ y = 45 ∨ y = 46 ∨ y = 47 ∨ y = 48 ∨ y = 49 ∨ y = 50 ∨ y = 51 ∨ y = 52 ∨ y = 53 ∨ y = 54 ∨ y = 55 ∨ y = 56 ∨ y = 57 ∨ y = 58 ∨ y = 59 ∨ y = 60 ∨ y = 61 ∨ y = 62 ∨ y = 63 ∨ y = 64 := by omega
  rcases h with rfl | rfl | rfl | rfl | rfl | rfl | rfl | rfl | rfl | rfl | rfl | rfl | rfl | rfl | rfl | rfl | rfl | rfl | rfl | rfl | rfl | rfl | rfl | rfl <;> rfl
theorem unk_t : ∀ p, (p = 2 ∨ p = 12) → ∀ y, y < 65 → 41 ≤ y → (4 ≤ unk y ∧ unk y ≤ 7 ∨ 20 ≤ unk y ∧ unk y ≤ 39) ∧ unk y < 65 ∧ ci p y = ci p (unk y) + 14 ∧ (cT.getD y (0, 0, 0, 0, 0)).1 = (cT.getD (unk y) (0, 0, 0, 0, 0)).1 ∧ (cT.getD y (0, 0, 0, 0, 0)).2.2 = (cT.getD (unk y) (0, 0, 0, 0, 0)).2.2 := by
  intro p hp
  rcases hp with rfl | rfl <;> decide +kernel
theorem ci_out : ∀ p, (p = 2 ∨ p = 12) → ∀ y, y < 65 → y < 41 → ci p y < 38 ∨ 51 < ci p y := by
  intro p hp
  rcases hp with rfl | rfl <;> decide +kernel
theorem unk_cx {p y : Nat} (hp : p = 2 ∨ p = 12) (h : y < 65) (h2 : 41 ≤ y) (j : Nat) : cx y j = cx (unk y) j := by
  obtain ⟨-, -, -, e1, e2⟩ := unk_t p hp y h h2
  unfold cx
  rw [e1, e2]
theorem imgA_gt {A : aS} {y j : Nat} (h1 : 41 ≤ y) (h2 : y ≤ 64) : imgA A y j = A (unk y) j := by
  unfold imgA
  rw [if_neg (by omega), if_pos ⟨h1, h2⟩]
theorem imgA_lt {A : aS} {y j : Nat} (h1 : y < 41) (h2 : y ≠ 8) : imgA A y j = A y j := by
  unfold imgA
  rw [if_neg h2, if_neg (by omega), if_neg (by omega)]
theorem wf_img {A : aS} (h : wf A) : wf (imgA A) := by
  obtain ⟨⟨a1, a2, a3, a4, a5, a6, a7, a8, a9, a10⟩, g2, g3⟩ := h
  have hL : LW (imgA A) (imgA A) := g2
  have hK : LW (imgA A) (kA (imgA A)) := g2
  exact ⟨⟨a1, a2, a3, a4, a5, a6, a7, a8, Or.inr rfl, a10⟩, hL, fun _ => hK⟩
theorem c_img {p : Nat} {A : aS} {S : z_St} (h : CI p A S) (hw : wf A) : ∃ S1, z_ew 1000 97 [.ref 0] S = some (.inl none, S1) ∧ CI p (imgA A) S1 ∧ fC S S1 := by
  have h4 : 0 ≤ A 4 0 ∧ A 4 0 ≤ 200 := hw.L.1
  have h6 := hw.k
  obtain ⟨n, hn⟩ : ∃ n : Nat, A 4 0 = n := ⟨(A 4 0).toNat, by omega⟩
  obtain ⟨l, hl⟩ : ∃ l : Nat, A 6 0 = l := ⟨(A 6 0).toNat, by omega⟩
  have e := cpa_e (d := 998) (n := n) (l := l) (S := S) (by rw [c_4 h, hn]) (by omega) (by rw [c_6 h, hl]) (by omega)
  refine ⟨(z_w1 (cpa n l S).1 0 8 (nI 1), (cpa n l S).2), ?_, ?_, ?_⟩
  · rw [zx_97 999, e, clv_v]
  · obtain ⟨q1, q2, q3, q4, q5, q6⟩ := h
    refine ⟨q1, ?_, ?_, ?_, ?_, ?_⟩
    · show z_w1 (cpa n l S).1 0 8 (nI 1) 0 3 = _
      rw [z_w1_r, if_neg (by omega), (cpa_o (by omega)).1]
      exact q2
    · show z_w1 (cpa n l S).1 0 8 (nI 1) 0 4 = _
      rw [z_w1_r, if_neg (by omega), (cpa_o (by omega)).1]
      exact q3
    · intro y hy j hj
      show z_w1 (cpa n l S).1 0 8 (nI 1) (ci p y) (cx y j) = _
      by_cases g : 41 ≤ y
      · obtain ⟨u1, u2, u3, -, -⟩ := unk_t p q1 y hy g
        rw [img_gt y g hy] at hj
        have e4 := q4 (unk y) u2 j hj
        rw [z_w1_r, if_neg (by omega), u3, unk_cx q1 hy g, cpa_x hw hn hl u1 hj, e4, imgA_gt g (by omega), ce_id (by omega) (by omega), ce_id (by omega) (by omega)]
      · rw [img_le y (by omega)] at hj
        by_cases g8 : y = 8
        · subst g8
          rw [z_w1_r, if_pos ⟨rfl, by show 8 + 0 * j = 8; omega⟩]
          rfl
        · have hd := cD_le hw y hy
          rw [z_w1_r, if_neg (fun e => g8 (c_inj (k := 0) q1 hy (by decide : 8 < 65) (by omega) (by decide) e.1 e.2).1), (cpa_o (ci_out p q1 y hy (by omega))).1, imgA_lt (by omega) g8]
          exact q4 y hy j hj
    · intro b r hb hr q hq
      show ((cpa n l S).2 32 _).toBitVec.getLsbD _ = _
      rw [(cpa_o (by omega)).2]
      exact q5 b r hb hr q hq
    · intro _ b r hb hr q hq
      show ((cpa n l S).2 46 _).toBitVec.getLsbD _ = _
      rw [cpa_l (by omega)]
      exact q5 b r hb hr q hq
  · intro a ha
    refine ⟨?_, (cpa_o (n := n) (l := l) (S := S) (a := a) (by omega)).2⟩
    show z_w1 (cpa n l S).1 0 8 (nI 1) a = _
    rw [z_w1_ne (by omega), (cpa_o (by omega)).1]
