/-! whether a reader stops behind a page -/
def askL (A : aS) (b : Nat) (g m h : Int) : List Int32 := [iI g, iI (A 11 b - g), iI (if A 12 b = 0 then g else (g - 1) % A 12 b + 1), iI m, iI (h % 24), iI (h / 24), iI (b : Int)]
def stp (A : aS) (r b : Nat) (g m h : Int) : Bool := lres (lrun (A 19) (fun i => (askL A b g m h).getD i 0) (A 17 r).toNat ((A 18 r).toNat - (A 17 r).toNat) [])
theorem w7 (M : z_Mi) (X : Nat) (a0 a1 a2 a3 a4 a5 a6 : Int32) {i : Nat} (hi : i < 7) : z_w1 (z_w1 (z_w1 (z_w1 (z_w1 (z_w1 (z_w1 M X 0 a0) X 1 a1) X 2 a2) X 3 a3) X 4 a4) X 5 a5) X 6 a6 X i = [a0, a1, a2, a3, a4, a5, a6].getD i 0 := by
  have h : i = 0 ∨ i = 1 ∨ i = 2 ∨ i = 3 ∨ i = 4 ∨ i = 5 ∨ i = 6 := by omega
  rcases h with rfl | rfl | rfl | rfl | rfl | rfl | rfl <;> simp [z_w1_r]
theorem w7o (M : z_Mi) (X : Nat) (a0 a1 a2 a3 a4 a5 a6 : Int32) {a i : Nat} (ha : a ≠ X) : z_w1 (z_w1 (z_w1 (z_w1 (z_w1 (z_w1 (z_w1 M X 0 a0) X 1 a1) X 2 a2) X 3 a3) X 4 a4) X 5 a5) X 6 a6 a i = M a i := by
  simp [z_w1_r, ha]
/-- what the model's reading leaves -/
def fL (S S' : z_St) : Prop := S'.1 70 1 = S.1 70 1 ∧ ∀ a i, 89 ≤ a → a ≤ 94 → S'.1 a i = S.1 a i
theorem fL.rf (S : z_St) : fL S S := ⟨rfl, fun _ _ _ _ => rfl⟩
theorem fL.tr {S S1 S2 : z_St} (h : fL S S1) (h2 : fL S1 S2) : fL S S2 := ⟨h2.1.trans h.1, fun a i h3 h4 => (h2.2 a i h3 h4).trans (h.2 a i h3 h4)⟩
section STO
variable {p : Nat} {A : aS} {S S0 : z_St}
def Lm (S0 S : z_St) (s : List Int32) : Prop := stk (S.1 96) s ∧ (∀ a i, a ≠ 96 → S.1 a i = S0.1 a i) ∧ S.2 = S0.2
theorem Lm.w {s t : List Int32} (h : Lm S0 S s) (ht : stk (S.1 96) t) (v : Int32) : Lm S0 (z_w1 S.1 96 t.length v, S.2) (v :: t) := by
  refine ⟨⟨?_, stk_up t ht (fun i hi => ?_)⟩, fun a i q => ?_, h.2.2⟩
  · dsimp only
    rw [z_w1_r, if_pos ⟨rfl, rfl⟩]
  · dsimp only
    rw [z_w1_r, if_neg (by omega)]
  · dsimp only
    rw [z_w1_r, if_neg (by omega)]
    exact h.2.1 a i q
theorem m_obey {ask : Nat → Int32} {r t f : Nat} {c : Nat → Int} (hr : r < 8) (ha : ∀ i, i < 7 → S0.1 95 i = ask i) (ht : S0.1 78 r = iI (t : Int)) (ht7 : t ≤ 700) (hf : f < t) (hc : S0.1 79 f = iI (c f)) (hv : cok (c f)) {s : List Int32} (h : Lm S0 S s) (h1 : -20 < c f → s.length < 60) (h2 : c f = -28 → 1 ≤ s.length) (h3 : c f ≤ -20 → c f ≠ -28 → 2 ≤ s.length) (h4 : s.length ≤ 60) (d z m : Nat) (x2 x3 x4 x5 x8 : Option Value) : ∃ S' m', m ≤ m' ∧ z_R148 (d + 1) (m + 5) 101 z [some (.ref 70), some (.int (iI (r : Int))), x2, x3, x4, x5, some (.int (iI (s.length : Int))), some (.int (iI (f : Int))), x8] [] S = z_R148 (d + 1) m' 101 z [some (.ref 70), some (.int (iI (r : Int))), none, none, none, none, some (.int (iI ((lst (c f) ask s).length : Int))), some (.int (iI ((f + 1 : Nat) : Int))), none] [] S' ∧ Lm S0 S' (lst (c f) ask s) := by
  obtain ⟨v1, v2, v3⟩ := hv
  have n20 : -nI 20 = iI (-20) := rfl
  have n28 : -nI 28 = iI (-28) := rfl
  have e2 : (f : Int) + ((1 : Nat) : Int) = ((f + 1 : Nat) : Int) := by omega
  have e79 : S.1 79 f = iI (c f) := (h.2.1 79 f (by decide)).trans hc
  rw [zq_148_101, ixN (by omega) (by decide), cond_true, tN (by omega), h.2.1 78 r (by decide), ht, if_neg (by rw [iI_le (by omega) (by omega) (by omega) (by omega)]; omega), ixN (by omega) (by decide), cond_true, tN (by omega), e79, n20]
  unfold lst
  by_cases q : -20 < c f
  · rw [if_neg (by rw [iI_le (by omega) (by omega) (by decide) (by decide)]; omega), iI_0]
    have hl := h1 q
    by_cases q0 : 0 ≤ c f
    · refine ⟨_, m + 2, by omega, ?_, by rw [if_pos q, if_pos q0]; exact h.w h.1 (iI (c f))⟩
      rw [if_pos q, if_pos q0, if_neg (by rw [iI_lt (by omega) (by omega) (by decide) (by decide)]; omega), zq_148_153, ixN hl (by decide), cond_true, tN (by omega), zq_148_229, iI_n 1, iI_add, iI_add, e2]
      rfl
    · obtain ⟨k, hk⟩ : ∃ k : Nat, c f = -1 - k := ⟨(-1 - c f).toNat, by omega⟩
      have ek : (-1 - c f).toNat = k := by omega
      have e3 : iI (-1) - iI (c f) = iI (k : Int) := by rw [iI_sub]; congr 1; omega
      refine ⟨_, m + 1, by omega, ?_, by rw [if_pos q, if_neg q0, ek]; exact h.w h.1 (ask k)⟩
      rw [if_pos q, if_neg q0, ek, if_pos (by rw [iI_lt (by omega) (by omega) (by decide) (by decide)]; omega), zq_148_144, nm1, e3, ixN (by omega) (by decide), cond_true, tN (by omega), h.2.1 95 k (by decide), ha k (by omega), zq_148_153, ixN hl (by decide), cond_true, tN (by omega), zq_148_229, iI_n 1, iI_add, iI_add, e2]
      rfl
  · rw [if_pos (by rw [iI_le (by omega) (by omega) (by decide) (by decide)]; omega), zq_148_160, n28]
    by_cases q28 : c f = -28
    · have hl := h2 q28
      rw [if_pos (by rw [q28]), if_neg q, if_pos q28]
      match s, h, hl, h4 with
      | x :: u, h, _, h4 =>
        have hu : u.length + 1 ≤ 60 := h4
        have eu : iI (((x :: u).length : Nat) : Int) - nI 1 = iI (u.length : Int) := by
          rw [iI_n, iI_sub]
          congr 1
          show ((u.length + 1 : Nat) : Int) - ((1 : Nat) : Int) = _
          omega
        rw [eu, ixN (by omega) (by decide), cond_true, tN (by omega), h.1.1]
        by_cases qx : x = 0
        · refine ⟨_, m, by omega, ?_, by dsimp only; rw [if_pos qx]; exact h.w h.1.2 (nI 1)⟩
          rw [if_pos qx, zq_148_191, zq_148_192, ixN (by omega) (by decide), cond_true, tN (by omega), zq_148_229, iI_n 1, iI_add, e2]
          dsimp only
          rw [if_pos qx]
          rfl
        · refine ⟨_, m + 1, by omega, ?_, by dsimp only; rw [if_neg qx]; exact h.w h.1.2 (nI 0)⟩
          rw [if_neg qx, zq_148_192, ixN (by omega) (by decide), cond_true, tN (by omega), zq_148_229, iI_n 1, iI_add, e2]
          dsimp only
          rw [if_neg qx]
          rfl
    · have hl := h3 (by omega) q28
      rw [if_neg (by rw [iI_eq (by omega) (by omega) (by decide) (by decide)]; exact q28), if_neg q, if_neg q28]
      match s, h, hl, h4 with
      | y :: x :: u, h, _, h4 =>
        have hu : u.length + 1 + 1 ≤ 60 := h4
        have eu : iI (((y :: x :: u).length : Nat) : Int) + iI (-1) = iI ((u.length + 1 : Nat) : Int) := by
          rw [iI_add]
          congr 1
          show ((u.length + 1 + 1 : Nat) : Int) + -1 = _
          omega
        have eu2 : iI ((u.length + 1 : Nat) : Int) - nI 1 = iI (u.length : Int) := by
          rw [iI_n, iI_sub]
          congr 1
          omega
        have h9 := h.1.1
        have h9 : S.1 96 (u.length + 1) = y := h9
        refine ⟨_, m + 1, by omega, ?_, h.w h.1.2.2 (rk (c f) x y)⟩
        rw [zq_148_196, nm1, eu, eu2, ixN (by omega) (by decide), cond_true, ixN (by omega) (by decide), cond_true, tN (by omega), tN (by omega), h.1.2.1, h9, m_rk _ x y d (by omega) (by omega), cli_i, cond_true, zq_148_229, iI_n 1, iI_add, e2]
        rfl
theorem lst_60 {ask : Nat → Int32} {c : Nat → Int} {f n e : Nat} {s : List Int32} (hs : (-20 < c f ∧ s.length < 60 ∧ cdh c (f + 1) n (s.length + 1) = some e) ∨ (c f = -28 ∧ 1 ≤ s.length ∧ cdh c (f + 1) n s.length = some e) ∨ (c f ≤ -20 ∧ c f ≠ -28 ∧ 2 ≤ s.length ∧ cdh c (f + 1) n (s.length - 1) = some e)) (hl : s.length ≤ 60) : (lst (c f) ask s).length ≤ 60 := by
  unfold lst
  rcases hs with ⟨q1, q2, -⟩ | ⟨q1, q2, -⟩ | ⟨q1, q2, q3, -⟩
  · rw [if_pos q1]; show s.length + 1 ≤ 60; omega
  · rw [if_neg (by omega), if_pos q1]
    cases s with
    | nil => exact Nat.zero_le 60
    | cons x t => exact hl
  · rw [if_neg (by omega), if_neg q2]
    match s, hl with
    | y :: x :: t, hl =>
      have hl : t.length + 1 + 1 ≤ 60 := hl
      show t.length + 1 ≤ 60
      omega
    | [x], _ => exact Nat.zero_le 60
    | [], _ => exact Nat.zero_le 60
theorem m_run {ask : Nat → Int32} {r t e : Nat} {c : Nat → Int} (hr : r < 8) (ha : ∀ i, i < 7 → S0.1 95 i = ask i) (ht : S0.1 78 r = iI (t : Int)) (ht7 : t ≤ 700) (hc : ∀ k, k < t → S0.1 79 k = iI (c k)) (hok : ∀ k, k < t → cok (c k)) (d z : Nat) : ∀ (n f m : Nat) (S : z_St) (s : List Int32) (x2 x3 x4 x5 x8 : Option Value), f + n = t → 5 * n + 4 ≤ m → s.length ≤ 60 → cdh c f n s.length = some e → Lm S0 S s → ∃ S' m', z_R148 (d + 1) m 101 z [some (.ref 70), some (.int (iI (r : Int))), x2, x3, x4, x5, some (.int (iI (s.length : Int))), some (.int (iI (f : Int))), x8] [] S = z_R148 (d + 1) (m' + 3) 235 z [some (.ref 70), some (.int (iI (r : Int))), none, none, none, none, some (.int (iI ((lrun c ask f n s).length : Int))), some (.int (iI (t : Int))), none] [] S' ∧ Lm S0 S' (lrun c ask f n s) := by
  intro n
  induction n with
  | zero =>
    intro f m S s x2 x3 x4 x5 x8 hf hm hl _ h
    obtain ⟨m, rfl⟩ : ∃ m', m = m' + 4 := ⟨m - 4, by omega⟩
    have e : f = t := by omega
    subst e
    refine ⟨S, m, ?_, h⟩
    rw [zq_148_101, ixN (by omega) (by decide), cond_true, tN (by omega), h.2.1 78 r (by decide), ht, if_pos (by rw [iI_le (by omega) (by omega) (by omega) (by omega)]; omega)]
    rfl
  | succ n ih =>
    intro f m S s x2 x3 x4 x5 x8 hf hm hl hd h
    obtain ⟨m, rfl⟩ : ∃ m', m = m' + 5 := ⟨m - 5, by omega⟩
    have hs := cdh_s hd
    obtain ⟨S1, m1, g0, g1, g2⟩ := m_obey (ask := ask) (c := c) hr ha ht ht7 (show f < t by omega) (hc f (by omega)) (hok f (by omega)) h (fun q => by omega) (fun q => by omega) (fun q q2 => by omega) hl d z m x2 x3 x4 x5 x8
    have hl2 : (lst (c f) ask s).length ≤ 60 := lst_60 hs hl
    obtain ⟨S2, m2, g3, g4⟩ := ih (f + 1) m1 S1 _ none none none none none (by omega) (by omega) hl2 (lst_l hd) g2
    exact ⟨S2, m2, g1.trans g3, g4⟩
theorem wf.rr (hw : wf A) {r : Nat} (hr : (r : Int) < A 3 0) : (1 ≤ A 13 r ∧ A 13 r ≤ 60) ∧ (0 ≤ A 14 r ∧ A 14 r ≤ 3) ∧ (0 ≤ A 15 r ∧ A 15 r ≤ 20) ∧ (A 16 r = 0 ∨ A 16 r = 1) ∧ (0 ≤ A 17 r ∧ A 17 r ≤ A 18 r ∧ A 18 r ≤ A 67 0) ∧ (A 17 r = A 18 r ∨ cdh (A 19) (A 17 r).toNat (A 18 r - A 17 r).toNat 0 = some 1) := hw.P.2.2.2.2.2.2.1 r hr
theorem wf.c67 (hw : wf A) : 0 ≤ A 67 0 ∧ A 67 0 ≤ 700 := hw.P.2.2.2.2.1
theorem wf.ck (hw : wf A) {k : Nat} (hk : (k : Int) < A 67 0) : cok (A 19 k) := hw.P.2.2.2.2.2.2.2.1 k hk
theorem stp_0 {r b : Nat} {g m h : Int} (h0 : A 17 r = A 18 r) : stp A r b g m h = false := by
  unfold stp
  rw [h0, Nat.sub_self]
  rfl
def pbg (T g : Int) : Int := if T < 1 then 1 else g - (g - 1) % T
theorem c_part (h : CI p A S) (hw : wf A) {b : Nat} {g : Int} (hb : (b : Int) < A 2 0) (hg : 1 ≤ g ∧ g ≤ 401) (d : Nat) : z_ew (d + 1) 37 [.ref p, .int (iI (b : Int)), .int (iI g)] S = some (.inl (some (.int (iI (pbg (A 12 b) g)))), S) := by
  have h2 := hw.b
  have hp := hw.pt hb
  unfold pbg
  rw [zx_37, h.p3, cond_true, h.px (by decide) (by decide) h.pl.2.1 (by omega) (by decide), cond_true, tN (by omega), c_12 h hb, iI_n 1]
  by_cases q : A 12 b < 1
  · rw [if_neg (by rw [iI_le (by decide) (by decide) (by omega) (by omega)]; omega), zq_37_23, if_pos q]
    rfl
  · rw [if_pos (by rw [iI_le (by decide) (by decide) (by omega) (by omega)]; omega), zq_37_16, iI_0, if_neg (by rw [iI_eq (by omega) (by omega) (by decide) (by decide)]; omega), zq_37_23, iI_n 1, iI_sub, show g - ((1 : Nat) : Int) = g - 1 by omega, iI_rem (by omega) (by omega) (by omega) (by omega), iI_sub, if_neg q]
theorem emod_r {a T : Int} (hT : 0 < T) : 0 ≤ a % T ∧ a % T < T := ⟨Int.emod_nonneg a (by omega), Int.emod_lt_of_pos a hT⟩
theorem c_stop (hC : CI p A S) (hw : wf A) {r b : Nat} {g m h : Int} (hr : (r : Int) < A 3 0) (hb : (b : Int) < A 2 0) (hg : 1 ≤ g ∧ g ≤ 401) (hh : 0 ≤ h ∧ h ≤ 8784) (d : Nat) : ∃ S', z_ew (d + 4) 109 [.ref 0, .int (iI (r : Int)), .int (iI (b : Int)), .int (iI g), .int (iI m), .int (iI h)] S = some (.inl (some (.int (iI (if stp A r b g m h = true then 1 else 0)))), S') ∧ CI p A S' ∧ fC S S' := by
  have hrr := hw.rr hr
  have hr8 := hw.r
  have hb2 := hw.b
  have h67 := hw.c67
  have hpg := hw.pg hb
  have hpt := hw.pt hb
  obtain ⟨l1, l2, l3, l4, l5, l6, l7, l8, l9⟩ := hC.pl
  rw [zx_109, hC.p1, hC.p2, hC.p3, hC.px (by decide) (by decide) l7 (show r < 8 by omega) (by decide), hC.px (by decide) (by decide) l8 (show r < 8 by omega) (by decide)]
  simp only [cond_false, cond_true]
  rw [tN (by omega), c_17 hC hr, c_18 hC hr]
  by_cases q : A 17 r < A 18 r
  · rw [if_pos (by rw [iI_lt (by omega) (by omega) (by omega) (by omega)]; exact q), zq_109_23, hC.p1, hC.p2, hC.p3, hC.px (by decide) (by decide) l1 (show b < 10 by omega) (by decide), tN (by omega)]
    simp only [cond_false, cond_true]
    have hp16 : p = 2 ∨ p = 12 := hC.1
    have e11 : z_w1 S.1 53 0 (iI g) (p + 1) b = iI (A 11 b) := by
      rw [z_w1_r, if_neg (by omega)]
      exact c_11 hC hb
    rw [e11, iI_sub]
    obtain ⟨S1, hS1⟩ : ∃ S1 : z_St, S1 = (z_w1 (z_w1 S.1 53 0 (iI g)) 53 1 (iI (A 11 b - g)), S.2) := ⟨_, rfl⟩
    rw [← hS1]
    have f1 : ∀ a i, a ≠ 53 → S1.1 a i = S.1 a i := by
      intro a i ha
      rw [hS1]
      dsimp only
      rw [z_w1_r, if_neg (by omega), z_w1_r, if_neg (by omega)]
    have hC1 : CI p A S1 := hC.sc (fun a ha i => f1 a i (by omega)) (by rw [hS1])
    rw [c_part hC1 hw hb hg (d + 2), cli_i, hC1.p1, hC1.p2, hC1.p3, hC1.px (by decide) (by decide) l7 (show r < 8 by omega) (by decide), hC1.px (by decide) (by decide) l8 (show r < 8 by omega) (by decide), tN (by omega)]
    simp only [cond_false, cond_true]
    have i1 : iI g - iI (pbg (A 12 b) g) + nI 1 = iI (if A 12 b = 0 then g else (g - 1) % A 12 b + 1) := by
      rw [iI_n, iI_sub, iI_add]
      congr 1
      unfold pbg
      by_cases q0 : A 12 b = 0
      · rw [if_pos (by omega), if_pos q0]; omega
      · rw [if_neg (by omega), if_neg q0]; omega
    rw [i1, iI_n 24, iI_rem hh.1 (by omega) (by decide) (by decide), iI_div hh.1 (by omega) (by decide) (by decide)]
    obtain ⟨S2, hS2⟩ : ∃ S2 : z_St, S2 = (z_w1 (z_w1 (z_w1 (z_w1 (z_w1 S1.1 53 2 (iI (if A 12 b = 0 then g else (g - 1) % A 12 b + 1))) 53 3 (iI m)) 53 4 (iI (h % ((24 : Nat) : Int)))) 53 5 (iI (h / ((24 : Nat) : Int)))) 53 6 (iI (b : Int)), S1.2) := ⟨_, rfl⟩
    rw [← hS2]
    have f2 : ∀ a i, a ≠ 53 → S2.1 a i = S1.1 a i := by
      intro a i ha
      rw [hS2]
      dsimp only
      rw [z_w1_r, if_neg (by omega), z_w1_r, if_neg (by omega), z_w1_r, if_neg (by omega), z_w1_r, if_neg (by omega), z_w1_r, if_neg (by omega)]
    have hC2 : CI p A S2 := hC1.sc (fun a ha i => f2 a i (by omega)) (by rw [hS2])
    have x7 : z_w1 (z_w1 (z_w1 (z_w1 (z_w1 S1.1 53 2 (iI (if A 12 b = 0 then g else (g - 1) % A 12 b + 1))) 53 3 (iI m)) 53 4 (iI (h % ((24 : Nat) : Int)))) 53 5 (iI (h / ((24 : Nat) : Int)))) 53 6 (iI (b : Int)) = S2.1 := by rw [hS2]
    rw [x7, c_17 hC2 hr, c_18 hC2 hr]
    obtain ⟨f, hf⟩ : ∃ f : Nat, A 17 r = f := ⟨(A 17 r).toNat, by omega⟩
    obtain ⟨t, ht⟩ : ∃ t : Nat, A 18 r = t := ⟨(A 18 r).toNat, by omega⟩
    have hask : ∀ i, i < 7 → S2.1 53 i = (askL A b g m h).getD i 0 := by
      intro i hi
      rw [hS2, hS1]
      exact w7 S.1 53 _ _ _ _ _ _ _ hi
    have hcd : cdh (A 19) f (t - f) 0 = some 1 := by
      rcases hrr.2.2.2.2.2 with e | e
      · omega
      · rw [hf, ht] at e
        rw [show (t - f : Nat) = ((t : Int) - (f : Int)).toNat by omega]
        exact e
    obtain ⟨S3, g1, g2, g3⟩ := c_hold (c := A 19) (q := p + 9) (f := f) (t := t) (S0 := S2) (by rcases hp16 with e | e <;> rw [e] <;> rfl) (hC2.p4 9 (by decide) (by decide)) l9 (by omega) (by omega) (by omega) (by omega) (fun k hk => c_19 hC2 (by omega)) (fun k hk => hw.ck (by omega)) hask hcd d
    rw [hf, ht, g1, cli_i, rb_b, cond_true]
    refine ⟨S3, ?_, hC2.sc (fun a ha i => g2 a i (by omega) (by omega)) g3, fun a ha => ⟨funext (fun i => ?_), ?_⟩⟩
    · unfold stp
      rw [hf, ht]
      rfl
    · rw [g2 a i (by omega) (by omega), f2 a i (by omega), f1 a i (by omega)]
    · rw [g3, hS2, hS1]
  · rw [if_neg (by rw [iI_lt (by omega) (by omega) (by omega) (by omega)]; exact q)]
    refine ⟨S, ?_, hC, fC.rf S⟩
    rw [stp_0 (by omega)]
    rfl
theorem m_stop (hM : MI A S) (hw : wf A) {r b : Nat} {g m h : Int} (hr : (r : Int) < A 3 0) (hb : (b : Int) < A 2 0) (hg : 1 ≤ g ∧ g ≤ 401) (hh : 0 ≤ h ∧ h ≤ 8784) (d : Nat) : ∃ S', z_ew (d + 2) 148 [.ref 70, .int (iI (r : Int)), .int (iI (b : Int)), .int (iI g), .int (iI m), .int (iI h)] S = some (.inl (some (.int (iI (if stp A r b g m h = true then 1 else 0)))), S') ∧ MI A S' ∧ fM S S' ∧ fL S S' := by
  have hrr := hw.rr hr
  have hr8 := hw.r
  have hb2 := hw.b
  have h67 := hw.c67
  have hpg := hw.pg hb
  have hpt := hw.pt hb
  obtain ⟨f, hf⟩ : ∃ f : Nat, A 17 r = f := ⟨(A 17 r).toNat, by omega⟩
  obtain ⟨t, ht⟩ : ∃ t : Nat, A 18 r = t := ⟨(A 18 r).toNat, by omega⟩
  obtain ⟨S1, hS1⟩ : ∃ S1 : z_St, S1 = (z_w1 (z_w1 (z_w1 (z_w1 (z_w1 (z_w1 (z_w1 S.1 95 0 (iI g)) 95 1 (iI (A 11 b - g))) 95 2 (iI (if A 12 b = 0 then g else (g - 1) % A 12 b + 1))) 95 3 (iI m)) 95 4 (iI (h % ((24 : Nat) : Int)))) 95 5 (iI (h / ((24 : Nat) : Int)))) 95 6 (iI (b : Int)), S.2) := ⟨_, rfl⟩
  have f1 : ∀ a i, a ≠ 95 → S1.1 a i = S.1 a i := fun a i ha => by rw [hS1]; exact w7o S.1 95 _ _ _ _ _ _ _ ha
  have hask : ∀ i, i < 7 → S1.1 95 i = (askL A b g m h).getD i 0 := fun i hi => by rw [hS1]; exact w7 S.1 95 _ _ _ _ _ _ _ hi
  have go : z_ew (d + 2) 148 [.ref 70, .int (iI (r : Int)), .int (iI (b : Int)), .int (iI g), .int (iI m), .int (iI h)] S = z_R148 (d + 1) (if A 12 b = 0 then 999998 else 999997) 101 0 [some (.ref 70), some (.int (iI (r : Int))), some (.int (iI (b : Int))), none, some (.int (iI m)), some (.int (iI h)), some (.int (iI (([] : List Int32).length : Int))), some (.int (iI (f : Int))), none] [] S1 := by
    have e73 : S.1 73 b = iI (A 12 b) := m_12 hM hb
    have e72 : S.1 72 b = iI (A 11 b) := m_11 hM hb
    have e77 : S.1 77 r = iI (f : Int) := by rw [m_17 hM hr, hf]
    rw [zx_148, ixN (by omega) (by decide), cond_true, tN (by omega), e73, e72, iI_sub, iI_0]
    simp only [cond_true]
    by_cases q0 : A 12 b = 0
    · rw [if_pos (by rw [q0]), if_pos q0, zq_148_51, show z_ix (nI 2) 7 = true by decide +kernel, ixN (by omega) (by decide), tN (by omega)]
      simp only [cond_true]
      rw [show (nI 2).toNatClampNeg = 2 by decide +kernel, z_w1_r, if_neg (by omega), z_w1_r, if_neg (by omega), e77, iI_n 24, iI_rem hh.1 (by omega) (by decide) (by decide), iI_div hh.1 (by omega) (by decide) (by decide), hS1, if_pos q0]
      rfl
    · have e73' : z_w1 (z_w1 S.1 95 0 (iI g)) 95 1 (iI (A 11 b - g)) 73 b = iI (A 12 b) := by rw [z_w1_r, if_neg (by omega), z_w1_r, if_neg (by omega), e73]
      rw [if_neg (by rw [iI_eq (by omega) (by omega) (by decide) (by decide)]; exact q0), if_neg q0, zq_148_39, ixN (by omega) (by decide), tN (by omega)]
      simp only [cond_true, e73']
      rw [iI_0, if_neg (by rw [iI_eq (by omega) (by omega) (by decide) (by decide)]; exact q0), iI_n 1, iI_sub, show g - ((1 : Nat) : Int) = g - 1 by omega, iI_rem (by omega) (by omega) (by omega) (by omega), iI_add, zq_148_51, show z_ix (nI 2) 7 = true by decide +kernel, ixN (by omega) (by decide), tN (by omega)]
      simp only [cond_true]
      rw [show (nI 2).toNatClampNeg = 2 by decide +kernel, z_w1_r, if_neg (by omega), z_w1_r, if_neg (by omega), e77, iI_n 24, iI_rem hh.1 (by omega) (by decide) (by decide), iI_div hh.1 (by omega) (by decide) (by decide), hS1, if_neg q0]
      rfl
  have hok : ∀ k, k < t → cok (A 19 k) := fun k hk => hw.ck (by omega)
  have fin : ∀ (S' : z_St), Lm S1 S' (lrun (A 19) (fun i => (askL A b g m h).getD i 0) f (t - f) []) → MI A S' ∧ fM S S' ∧ fL S S' := by
    intro S' hL
    refine ⟨hM.sc hw (fun i _ => ?_) (fun a _ ha i => ?_), fun a ha => ⟨funext (fun i => ?_), ?_⟩, ?_, fun a i h1 h2 => by rw [hL.2.1 a i (by omega), f1 a i (by omega)]⟩
    · rw [hL.2.1 70 i (by decide), f1 70 i (by decide)]
    · have ha1 : a ≠ 96 := by rintro rfl; exact absurd ha (by decide)
      have ha2 : a ≠ 95 := by rintro rfl; exact absurd ha (by decide)
      rw [hL.2.1 a i ha1, f1 a i ha2]
    · rw [hL.2.1 a i (by omega), f1 a i (by omega)]
    · rw [hL.2.2, hS1]
    · rw [hL.2.1 70 1 (by decide), f1 70 1 (by decide)]
  have hcd : ∃ e, cdh (A 19) f (t - f) 0 = some e ∧ (e = 0 ∧ t = f ∨ e = 1) := by
    rcases hrr.2.2.2.2.2 with e | e
    · refine ⟨0, ?_, Or.inl ⟨rfl, by omega⟩⟩
      rw [show t - f = 0 by omega]
      rfl
    · rw [hf, ht] at e
      refine ⟨1, ?_, Or.inr rfl⟩
      rw [show (t - f : Nat) = ((t : Int) - (f : Int)).toNat by omega]
      exact e
  obtain ⟨e, hcd, he⟩ := hcd
  have hm5 : 5 * (t - f) + 4 ≤ (if A 12 b = 0 then 999998 else 999997) := by
    by_cases q0 : A 12 b = 0
    · rw [if_pos q0]; omega
    · rw [if_neg q0]; omega
  obtain ⟨S2, m2, g1, g2⟩ := m_run (ask := fun i => (askL A b g m h).getD i 0) (c := A 19) (r := r) (t := t) (S0 := S1) (by omega) hask (by rw [f1 78 r (by decide), m_18 hM hr, ht]) (by omega) (fun k hk => by rw [f1 79 k (by decide)]; exact m_19 hM (by omega)) hok d 0 (t - f) f _ S1 [] (some (.int (iI (b : Int)))) none (some (.int (iI m))) (some (.int (iI h))) none (by omega) hm5 (by decide) hcd ⟨trivial, fun _ _ _ => rfl, rfl⟩
  refine ⟨S2, ?_, fin S2 g2⟩
  have hl := lrun_l (ask := fun i => (askL A b g m h).getD i 0) (t - f) f [] hcd
  rw [go, g1, zq_148_235]
  unfold stp
  rw [hf, ht, Int.toNat_natCast, Int.toNat_natCast]
  rcases he with ⟨e0, -⟩ | e1
  · have : lrun (A 19) (fun i => (askL A b g m h).getD i 0) f (t - f) [] = [] := List.eq_nil_of_length_eq_zero (by omega)
    have h9 : iI ((([] : List Int32).length : Nat) : Int) ≤ 0 := by decide +kernel
    rw [this, if_pos h9, zq_148_253, zq_148_254, rbn0, cond_true]
    rfl
  · obtain ⟨x, hx⟩ : ∃ x, lrun (A 19) (fun i => (askL A b g m h).getD i 0) f (t - f) [] = [x] := by
      match lrun (A 19) (fun i => (askL A b g m h).getD i 0) f (t - f) [], hl.trans e1 with
      | [x], _ => exact ⟨x, rfl⟩
    rw [hx] at g2 ⊢
    have hx0 : S2.1 96 0 = x := g2.1.1
    have h9 : ¬ iI (([x].length : Nat) : Int) ≤ 0 := by show ¬ iI ((1 : Nat) : Int) ≤ 0; decide +kernel
    rw [if_neg h9, hx0]
    show _ = (some (Sum.inl (some (Value.int (iI (if (!(decide (x = 0))) = true then 1 else 0)))), S2) : z_Res)
    by_cases qx : x = 0
    · rw [if_pos qx, zq_148_253, zq_148_254, rbn0, cond_true, if_neg (by simp [qx])]
      rfl
    · rw [if_neg qx, zq_148_254, rbn1, cond_true, if_pos (by simp [qx])]
      rfl
end STO
