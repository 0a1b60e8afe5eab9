/-! the class's clauses -/
def pLw (T : Nat → Int) (n : Nat) (s : Nat) (c : List Int) : pR := if wd T n s = 7 then pL T n 30 0 0 (nx T n s) c else .inl (s, c)
def rBk (T : Nat → Int) (n s : Nat) (c : List Int) : pR := pB (pNm T n 1 400 (nx T n s) c) (pOp T n 2 1 400)
def bkB (T : Nat → Int) (n : Nat) (B : aS) (s : Nat) : aS := aU (aU (aU B 11 (B 2 0).toNat (nb T n (nx T n s))) 12 (B 2 0).toNat (ovI T n 2 (nx T n (nx T n s)))) 2 0 (B 2 0 + 1)
def rR3 (T : Nat → Int) (n s : Nat) (c : List Int) : pR := pB (pB (pNm T n 1 60 (nx T n s) c) (pOp T n 4 0 3)) (pOp T n 5 0 20)
def rRd (T : Nat → Int) (n s : Nat) (c : List Int) : pR := pB (pB (rR3 T n s c) (pW T n 6)) (pLw T n)
def rd1 (T : Nat → Int) (n s : Nat) : Nat := nx T n (nx T n s)
def rd2 (T : Nat → Int) (n s : Nat) : Nat := oPs T n 4 (rd1 T n s)
def rd3 (T : Nat → Int) (n s : Nat) : Nat := oPs T n 5 (rd2 T n s)
def rdB (T : Nat → Int) (n : Nat) (B : aS) (s : Nat) (l l' : Int) : aS := aU (aU (aU (aU (aU (aU (aU B 13 (B 3 0).toNat (nb T n (nx T n s))) 14 (B 3 0).toNat (ovI T n 4 (rd1 T n s))) 15 (B 3 0).toNat (ovI T n 5 (rd2 T n s))) 16 (B 3 0).toNat (if wd T n (rd3 T n s) = 6 then 1 else 0)) 17 (B 3 0).toNat l) 18 (B 3 0).toNat l') 3 0 (B 3 0 + 1)
def pD (B : aS) (x : Nat) : Int := if x < 13 then B 2 0 else B 3 0
def PC (q : Nat) (B : aS) (S : z_St) : Prop := (0 ≤ B 2 0 ∧ B 2 0 ≤ 10) ∧ (0 ≤ B 3 0 ∧ B 3 0 ≤ 8) ∧ S.1 q 0 = iI (B 2 0) ∧ S.1 q 3 = iI (B 3 0) ∧ ∀ x j : Nat, 11 ≤ x → x ≤ 18 → (j : Int) < pD B x → S.1 (q + (x - 10)) j = iI (B x j)
def frD (q : Nat) (S S' : z_St) : Prop := S'.2 = S.2 ∧ ∀ a i, a ≠ 22 → a ≠ 23 → (a < q ∨ q + 9 < a) → S'.1 a i = S.1 a i
theorem frD.tr {q : Nat} {S S1 S2 : z_St} (h : frD q S S1) (h2 : frD q S1 S2) : frD q S S2 := ⟨h2.1.trans h.1, fun a i a1 a2 a3 => (h2.2 a i a1 a2 a3).trans (h.2 a i a1 a2 a3)⟩
theorem frC.D {q : Nat} {S S' : z_St} (h : frC q S S') : frD q S S' := ⟨h.1, fun a i a1 a2 a3 => h.2 a i a1 a2 (by omega) (by omega)⟩
theorem frC.w {q a0 k : Nat} {v : Int32} {S S' : z_St} (h : frC q S S') : frC q (z_w1 S.1 a0 k v, S.2) (z_w1 S'.1 a0 k v, S'.2) := ⟨h.1, fun a i a1 a2 a3 a4 => by
  dsimp only
  rw [z_w1_r, z_w1_r, h.2 a i a1 a2 a3 a4]⟩
theorem q_i {q : Nat} (hq : q = 2 ∨ q = 12) : decide (iI (q : Int) = -1) = false ∧ (iI (q : Int)).toNatClampNeg = q := by
  rcases hq with rfl | rfl <;> decide +kernel
theorem q_at {q : Nat} (hq : q = 2 ∨ q = 12) : (∀ j, 1 ≤ j → j ≤ 8 → z_at (q + j) = 1) ∧ (∀ j, 1 ≤ j → j ≤ 2 → z_ln (q + j) = 10) ∧ (∀ j, 3 ≤ j → j ≤ 8 → z_ln (q + j) = 8) := by
  have h : (∀ j : Fin 9, 1 ≤ j.val → z_at (q + j.val) = 1 ∧ z_ln (q + j.val) = if j.val ≤ 2 then 10 else 8) := by
    rcases hq with rfl | rfl <;> decide +kernel
  refine ⟨fun j h1 h2 => (h ⟨j, by omega⟩ h1).1, fun j h1 h2 => ?_, fun j h1 h2 => ?_⟩
  · have := (h ⟨j, by omega⟩ h1).2
    rw [this]
    show (if j ≤ 2 then 10 else 8) = 10
    rw [if_pos h2]
  · have := (h ⟨j, by omega⟩ (by show 1 ≤ j; omega)).2
    rw [this]
    show (if j ≤ 2 then 10 else 8) = 8
    rw [if_neg (by omega)]
section CC
variable {S : z_St} {T : Nat → Int} {n q : Nat}
theorem rc_q {r : pR} (h : RC T n q r S) : S.1 22 1 = iI (q : Int) := by
  cases r with
  | inl x => exact h.2.2.2.2.1
  | inr e => exact h.2.2.2.1
theorem RC.w {r : pR} (h : RC T n q r S) {j k : Nat} {v : Int32} (hq : q = 2 ∨ q = 12) (h1 : 1 ≤ j) (h2 : j ≤ 8) : RC T n q r (z_w1 S.1 (q + j) k v, S.2) := h.f (fun a i ha => by
  dsimp only
  rw [z_w1_r, if_neg (by omega)])
theorem c_25e (hq : q = 2 ∨ q = 12) (hn : n ≤ 700) {r : pR} (h : RC T n q r S) {k : Nat} (hk : k < 10) (t0 : Int32) (d1 : Option Value) (D : Nat) : ∃ S', (∀ fu, z_R25 (D + 4) (fu + 1) 87 0 [some (.ref 22), d1] [.int t0, .int (iI (k : Int)), .ref (q + 2)] S = some (.inl none, S')) ∧ RC T n q (pB r (pSg T n 59)) S' ∧ frC q (z_w1 S.1 (q + 2) k t0, S.2) S' := by
  obtain ⟨a1, a2, a3⟩ := q_at hq
  obtain ⟨S', b1, b2, b3⟩ := c_sg hq hn (sg := 59) (by omega) (by omega) (h.w (j := 2) (k := k) (v := t0) hq (by omega) (by omega)) D
  refine ⟨S', fun fu => ?_, b2, b3⟩
  rw [zq_25_87, a1 2 (by omega) (by omega), a2 2 (by omega) (by omega), ixN hk (by decide), show (Nat.beq 1 1 && true) = true from rfl, cond_true, tN (by omega), show nI 59 = iI 59 from rfl, b1, clv_v]
theorem PC.bk {k : Nat} {B : aS} {S' : z_St} {s : Nat} (h : PC q B S) (hk : B 2 0 = (k : Int)) (h10 : k < 10) {x3 t0 : Int32} (e3 : x3 = iI (nb T n (nx T n s))) (e0 : t0 = iI (ovI T n 2 (nx T n (nx T n s)))) (hq : q = 2 ∨ q = 12) (hf : frC q (z_w1 (z_w1 (z_w1 S.1 q 0 (iI ((k + 1 : Nat) : Int))) (q + 1) k x3) (q + 2) k t0, S.2) S') : PC q (bkB T n B s) S' := by
  obtain ⟨p1, p2, p3, p4, p5⟩ := h
  have hkn : (B 2 0).toNat = k := by omega
  have g2 : bkB T n B s 2 0 = (k : Int) + 1 := by
    unfold bkB
    rw [aU_r, if_pos ⟨rfl, rfl⟩, hk]
  have g3 : bkB T n B s 3 0 = B 3 0 := by
    unfold bkB
    rw [aU_r, if_neg (by omega), aU_r, if_neg (by omega), aU_r, if_neg (by omega)]
  have fr := hf.2
  refine ⟨by rw [g2]; omega, by rw [g3]; exact p2, ?_, ?_, ?_⟩
  · rw [fr q 0 (by omega) (by omega) (by omega) (by omega), g2]
    dsimp only
    rw [z_w1_r, if_neg (by omega), z_w1_r, if_neg (by omega), z_w1_r, if_pos ⟨rfl, rfl⟩]
    rfl
  · rw [fr q 3 (by omega) (by omega) (by omega) (by omega), g3]
    dsimp only
    rw [z_w1_r, if_neg (by omega), z_w1_r, if_neg (by omega), z_w1_r, if_neg (by omega), p4]
  · intro x j x1 x2 hj
    rw [fr (q + (x - 10)) j (by omega) (by omega) (by omega) (by omega)]
    dsimp only
    unfold bkB
    rw [hkn, aU_r, if_neg (by omega), aU_r, aU_r, z_w1_r, z_w1_r, z_w1_r, if_neg (show ¬ (q + (x - 10) = q ∧ j = 0) by omega)]
    by_cases c12 : x = 12 ∧ j = k
    · rw [if_pos (by omega), if_pos c12, e0]
    · rw [if_neg (by omega), if_neg c12]
      by_cases c11 : x = 11 ∧ j = k
      · rw [if_pos (by omega), if_pos c11, e3]
      · rw [if_neg (by omega), if_neg c11]
        refine p5 x j x1 x2 ?_
        unfold pD at hj ⊢
        rw [g2, g3] at hj
        by_cases c13 : x < 13
        · rw [if_pos c13] at hj ⊢
          omega
        · rw [if_neg c13] at hj ⊢
          exact hj
theorem c_book (hq : q = 2 ∨ q = 12) (hn : n ≤ 700) {B : aS} {s : Nat} {c : List Int} (hP : PC q B S) (hs : s < n) (hc : c.length ≤ s) (h : OKc T n q s c S) (d : Nat) : ∃ S', z_ew (d + 5) 25 [.ref 22] S = some (.inl none, S') ∧ RC T n q (if B 2 0 = 10 then .inr (2, s) else pB (rBk T n s c) (pSg T n 59)) S' ∧ frD q S S' ∧ (∀ y, B 2 0 ≠ 10 → rBk T n s c = .inl y → PC q (bkB T n B s) S') := by
  obtain ⟨k, hk⟩ : ∃ k : Nat, B 2 0 = (k : Int) := ⟨(B 2 0).toNat, by have := hP.1; omega⟩
  have hk10 : k ≤ 10 := by have := hP.1; omega
  obtain ⟨u1, u2⟩ := q_i hq
  obtain ⟨v1, v2, v3⟩ := q_at hq
  have hO3 := (z_at_q hq).1
  have hR : RC T n q (.inl (s, c)) S := ⟨by show s ≤ n; omega, hc, h⟩
  have h0 : S.1 q 0 = iI (k : Int) := by rw [hP.2.2.1, hk]
  rw [zx_25, rc_q hR, u1, cond_false, u2, hO3, cond_true, h0, iI_n 10]
  by_cases h10 : k < 10
  · rw [if_pos (by rw [iI_lt (by omega) (by omega) (by omega) (by omega)]; omega), if_neg (show ¬ B 2 0 = 10 by omega)]
    obtain ⟨S0, hS0⟩ : ∃ S0 : z_St, S0 = (z_w1 S.1 q 0 (iI ((k + 1 : Nat) : Int)), S.2) := ⟨_, rfl⟩
    have R0 : RC T n q (.inl (s, c)) S0 := hR.f (fun a i ha => by
      rw [hS0]
      dsimp only
      rw [z_w1_r, if_neg (by omega)])
    have hx := nx_r (T := T) hs
    obtain ⟨S1, b1, b2, b3⟩ := c_nx hq hn (by omega) R0.2.2 (d + 1)
    have R1 : RC T n q (.inl (nx T n s, c)) S1 := ⟨hx.2, by show c.length ≤ nx T n s; omega, b2⟩
    obtain ⟨x3, S2, e1, e2, e3, e4⟩ := c_tn hq hn (lo := 1) (hi := 400) (by omega) (by omega) (by omega) R1 d
    have ex : x3 = iI (nb T n (nx T n s)) := e4 _ rfl
    have e2 : RC T n q (pNm T n 1 400 (nx T n s) c) S2 := e2
    have R3 := e2.w (j := 1) (k := k) (v := x3) hq (by omega) (by omega)
    have f3 : frC q (z_w1 (z_w1 S.1 q 0 (iI ((k + 1 : Nat) : Int))) (q + 1) k x3, S.2) (z_w1 S2.1 (q + 1) k x3, S2.2) := by
      have := (b3.tr e3).w (a0 := q + 1) (k := k) (v := x3)
      rw [hS0] at this
      exact this
    have hz := rc_q R3
    dsimp only at hz
    obtain ⟨x5, S4, i1, i2⟩ := c_opt hq hn (i := 2) (by omega) (lo := 1) (hh := 400) (by omega) (by omega) (by omega) R3 d
    have start : z_R25 (d + 4) 999999 20 0 [some (.ref 22), some (.int (iI (k : Int)))] [] S = (if x5 = 0 then (z_R25 (d + 4) 999998 86 0 [some (.ref 22), some (.int (iI (k : Int)))] [.int (iI (k : Int)), .ref (q + 2)] S4) else (z_cli (z_ew (d + 4) 29 [.ref 22, .int (iI 1), .int (iI 400)] S4) (fun x7 S6 => z_R25 (d + 4) 999998 87 0 [some (.ref 22), some (.int (iI (k : Int)))] [.int x7, .int (iI (k : Int)), .ref (q + 2)] S6) (z_hnd []))) := by
      rw [zq_25_20, rc_q hR, u1, cond_false, u2, hO3, cond_true, show (true && Nat.beq 0 0 && z_nb 0 (S.1 q 0 + nI 1)) = true from rfl, cond_true, h0, iI_n 1, iI_add, show (k : Int) + ((1 : Nat) : Int) = ((k + 1 : Nat) : Int) by omega, ← hS0, b1, clv_v, rc_q R1, u1, cond_false, u2, hO3, cond_true, show iI ((1 : Nat) : Int) = iI 1 from rfl, show nI 400 = iI 400 from rfl, e1, cli_i, v1 1 (by omega) (by omega), v2 1 (by omega) (by omega), ixN h10 (by decide), show (Nat.beq 1 1 && true) = true from rfl, cond_true, tN (by omega), hz, u1, cond_false, u2, hO3, cond_true, show (1002 : Nat) = 1000 + 2 from rfl, i1, cli_i]
    rw [start]
    have fin : ∀ (t0 : Int32) (d1 : Option Value) (S5 : z_St), RC T n q (rBk T n s c) S5 → frC q (z_w1 S2.1 (q + 1) k x3, S2.2) S5 → (∀ y, pNm T n 1 400 (nx T n s) c = .inl y → t0 = iI (ovI T n 2 y.1)) → ∃ S', (∀ fu, z_R25 (d + 4) (fu + 1) 87 0 [some (.ref 22), d1] [.int t0, .int (iI (k : Int)), .ref (q + 2)] S5 = some (.inl none, S')) ∧ RC T n q (pB (rBk T n s c) (pSg T n 59)) S' ∧ frD q S S' ∧ (∀ y, B 2 0 ≠ 10 → rBk T n s c = .inl y → PC q (bkB T n B s) S') := by
      intro t0 d1 S5 r5 g5 ht
      obtain ⟨S', j1, j2, j3⟩ := c_25e hq hn r5 h10 t0 d1 d
      have fF : frC q (z_w1 (z_w1 (z_w1 S.1 q 0 (iI ((k + 1 : Nat) : Int))) (q + 1) k x3) (q + 2) k t0, S.2) S' := ((f3.tr g5).w (a0 := q + 2) (k := k) (v := t0)).tr j3
      refine ⟨S', j1, j2, ⟨fF.1, fun a i a1 a2 a3 => ?_⟩, fun y _ hy => ?_⟩
      · rw [fF.2 a i a1 a2 (by omega) (by omega)]
        dsimp only
        rw [z_w1_r, if_neg (by omega), z_w1_r, if_neg (by omega), z_w1_r, if_neg (by omega)]
      · unfold rBk at hy
        obtain ⟨s1, c1, y1, y2⟩ := pB_inl (s' := y.1) (c' := y.2) hy
        obtain ⟨z1, z2, -, -, -⟩ := pNm_i y1
        exact PC.bk (T := T) (n := n) (s := s) hP hk h10 ex (by rw [ht _ y1, z1]) hq fF
    rcases i2 with ⟨x0, i2, i3, i4⟩ | ⟨x0, x7, S6, i5, i2, i3, i4⟩
    · obtain ⟨S', j1, j2, j3, j4⟩ := fin (nI 0) none S4 i2 i3 (fun y hy => by rw [i4 y hy]; rfl)
      rw [if_pos x0, zq_25_86]
      exact ⟨S', j1 999996, j2, j3, j4⟩
    · obtain ⟨S', j1, j2, j3, j4⟩ := fin x7 (some (.int (iI (k : Int)))) S6 i2 i3 i4
      rw [if_neg x0, i5, cli_i]
      exact ⟨S', j1 999997, j2, j3, j4⟩
  · obtain ⟨S1, b1, b2, b3⟩ := c_bad hq hn (k := 2) (by omega) hR (d + 2)
    rw [if_neg (by rw [iI_lt (by omega) (by omega) (by omega) (by omega)]; omega), if_pos (show B 2 0 = 10 by omega), show nI 2 = iI 2 from rfl, b1, clv_v]
    exact ⟨S1, rfl, b2, b3.D, fun y hy => by omega⟩
end CC
