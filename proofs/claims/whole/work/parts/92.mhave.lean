/-! may a look be a reader's: the model -/
def prv (r : Nat) : List Nat → List Nat → Option Nat
  | w :: ws, l :: ps => if w = r then some l else prv r ws ps
  | _, _ => none
theorem prv_s {r w l : Nat} {ws ps : List Nat} : prv r (w :: ws) (l :: ps) = if w = r then some l else prv r ws ps := rfl
section MHV
variable {A : aS} {S : z_St}
theorem m_lbE {b r N : Nat} {f t : Int} (hM : MI A S) (hw : wf A) (hN : A 4 0 = N) (hr : (r : Int) < A 3 0) (hb : (b : Int) < A 2 0) (hf : 0 ≤ f ∧ f ≤ t ∧ t ≤ 8759) (d : Nat) : z_ew (d + 2) 162 [.ref 70, .int (iI (r : Int)), .int (iI (b : Int)), .int (iI f), .int (iI t)] S = some (.inl (some (.int (iI (lhP A b r t N - lhP A b r f N)))), S) := by
  have hl := hw.l
  rw [zx_162, iI_n]
  exact m_lb2 hM hw hN hr hb hf d 0 N 0 999999 _ (by omega) (by omega) rfl
theorem m_bbE {b r N : Nat} {f t : Int} (hM : MI A S) (hw : wf A) (hN : A 4 0 = N) (hr : (r : Int) < A 3 0) (hb : (b : Int) < A 2 0) (hf : 0 ≤ f ∧ f ≤ t ∧ t ≤ 8759) (d : Nat) : z_ew (d + 2) 163 [.ref 70, .int (iI (r : Int)), .int (iI (b : Int)), .int (iI f), .int (iI t)] S = some (.inl (some (.int (iI (bgP A b r t N - bgP A b r f N)))), S) := by
  have hl := hw.l
  rw [zx_163, iI_n]
  exact m_bb2 hM hw hN hr hb hf d 0 N 0 999999 _ (by omega) (by omega) rfl
theorem m_isI (x y v : Int32) (d : Nat) : z_ew (d + 1) 112 [.int x, .int y, .int v] S = some (.inl (some (.int (iI (if x < y ∨ v < x then 0 else 1)))), S) := by
  rw [zx_112]
  by_cases q : x < y
  · rw [if_pos q, zq_112_14, zq_112_15, rbn0, cond_true, if_pos (Or.inl q)]
    rfl
  · rw [if_neg q]
    by_cases q2 : v < x
    · rw [if_pos q2, zq_112_14, zq_112_15, rbn0, cond_true, if_pos (Or.inr q2)]
      rfl
    · rw [if_neg q2, zq_112_15, rbn1, cond_true, if_neg (by rintro (e | e); exact q e; exact q2 e)]
      rfl
theorem m_pv {r b l : Int32} {R : Nat} (hR : r = iI (R : Int)) (hR8 : R < 8) (d z : Nat) : ∀ (ws ps : List Nat) (n : Nat) (d2 d6 d7 d8 : Option Value), ws.length = ps.length → ps.length < 7 → stk (S.1 102) (ws.map f0) → stk (S.1 101) (ps.map f0) → (∀ w, w ∈ ws → w < 8) → ps.length + 1 ≤ n → ∃ (n' : Nat) (i' : Int), n ≤ n' + ps.length + 1 ∧ z_R165 d n 31 z [some (.ref 70), some (.int b), d2, some (.int r), some (.int l), some (.int (iI ((ps.length : Int) - 1))), d6, d7, d8] [] S = z_R165 d n' 53 z [some (.ref 70), some (.int b), none, some (.int r), some (.int l), some (.int (iI i')), none, none, none] [] S ∧ ((prv R ws ps = none ∧ i' = -1) ∨ ∃ (o j : Nat), i' = (j : Int) ∧ j < 6 ∧ o ∈ ps ∧ S.1 101 j = iI (o : Int) ∧ prv R ws ps = some o) := by
  subst hR
  intro ws
  induction ws with
  | nil =>
    intro ps n d2 d6 d7 d8 hlen _ _ _ _ hn
    cases ps with
    | cons _ _ => cases hlen
    | nil =>
      obtain ⟨n, rfl⟩ : ∃ m, n = m + 1 := ⟨n - 1, by omega⟩
      refine ⟨n, -1, by show n + 1 ≤ n + 0 + 1; omega, ?_, Or.inl ⟨rfl, rfl⟩⟩
      rw [zq_165_31, if_pos (by show iI ((0 : Nat) : Int) - 1 < 0 ; decide +kernel)]
      rfl
  | cons w ws ih =>
    intro ps n d2 d6 d7 d8 hlen h7 hs1 hs2 h8 hn
    cases ps with
    | nil => cases hlen
    | cons o ps =>
      have hlen : ws.length = ps.length := by
        have : ws.length + 1 = ps.length + 1 := hlen
        omega
      have h7 : ps.length + 1 < 7 := h7
      have hn : ps.length + 1 + 1 ≤ n := hn
      obtain ⟨n, rfl⟩ : ∃ m, n = m + 1 := ⟨n - 1, by omega⟩
      have e1 : (((o :: ps).length : Nat) : Int) - 1 = (ps.length : Int) := by
        show ((ps.length + 1 : Nat) : Int) - 1 = _
        omega
      have hs1 : S.1 102 (ws.map f0).length = f0 w ∧ stk (S.1 102) (ws.map f0) := hs1
      have hs2 : S.1 101 (ps.map f0).length = f0 o ∧ stk (S.1 101) (ps.map f0) := hs2
      rw [List.length_map] at hs1 hs2
      rw [hlen] at hs1
      have hw8 := h8 w List.mem_cons_self
      have f00 : f0 w = iI (w : Int) := rfl
      rw [e1, zq_165_31, iI_0, if_neg (by rw [iI_lt (by omega) (by omega) (by decide) (by decide)]; omega), ixN (by omega) (by decide), cond_true, tN (by omega), hs1.1, f00, prv_s]
      by_cases q : w = R
      · subst q
        rw [if_pos rfl, if_pos rfl]
        exact ⟨n, ps.length, by show n + 1 ≤ n + (ps.length + 1) + 1; omega, rfl, Or.inr ⟨o, ps.length, rfl, by omega, List.mem_cons_self, hs2.1, rfl⟩⟩
      · rw [if_neg (by rw [iI_eq (by omega) (by omega) (by omega) (by omega)]; omega), if_neg q, nm1, iI_add]
        obtain ⟨n', i', g1, g2, g3⟩ := ih ps n none none none none hlen (by omega) hs1.2 hs2.2 (fun x hx => h8 x (List.mem_cons_of_mem w hx)) (by omega)
        refine ⟨n', i', by show n + 1 ≤ n' + (ps.length + 1) + 1; omega, g2, ?_⟩
        rcases g3 with g3 | ⟨o', j, a1, a2, a3, a4⟩
        · exact Or.inl g3
        · exact Or.inr ⟨o', j, a1, a2, List.mem_cons_of_mem o a3, a4⟩
theorem m_mh {b r l N : Nat} {ws ps : List Nat} (hM : MI A S) (hw : wf A) (hN : A 4 0 = N) (hr : (r : Int) < A 3 0) (hb : (b : Int) < A 2 0) (hl : (l : Int) < A 6 0) (hps : ∀ o, o ∈ ps → (o : Int) < A 6 0 ∧ A 33 o ≤ A 33 l) (hlen : ws.length = ps.length) (h6 : ps.length < 6) (hat : S.1 101 ps.length = iI (l : Int)) (hs1 : stk (S.1 102) (ws.map f0)) (hs2 : stk (S.1 101) (ps.map f0)) (h8 : ∀ w, w ∈ ws → w < 8) (d : Nat) : z_ew (d + 3) 165 [.ref 70, .int (iI (b : Int)), .int (iI (ps.length : Int)), .int (iI (r : Int))] S = some (.inl (some (.int (bI (cK A b N r (prv r ws ps) l)))), S) := by
  have hr2 := hw.r
  have hk := hw.k
  have hl2 := hw.l
  have hrr := hw.rr hr
  have hlr := hw.lr hl
  have no : ∀ n x0 x1 x2 x3 x4 x5 x6 x7 x8, z_R165 (d + 2) (n + 2) 218 0 [x0, x1, x2, x3, x4, x5, x6, x7, x8] [] S = some (.inl (some (.int (iI 0))), S) := by
    intro n x0 x1 x2 x3 x4 x5 x6 x7 x8
    rw [zq_165_218, zq_165_219, rbn0, cond_true]
    rfl
  rw [zx_165, ixN h6 (by decide), cond_true, ixN (show r < 16 by omega) (by decide), cond_true, tN (show ps.length < 2147483648 by omega), hat, ixN (show l < 24 by omega) (by decide), cond_true, tN (show r < 2147483648 by omega), tN (show l < 2147483648 by omega), m_14 hM hr, m_34 hM hl]
  have hc : cK A b N r (prv r ws ps) l = (decide (A 34 l = A 14 r) && (match prv r ws ps with
    | none => decide (A 35 l - 1 ≤ A 13 r * lhP A b r (A 33 l) N)
    | some o => decide (A 33 o < A 33 l ∧ A 35 o - A 15 r * (bgP A b r (A 33 l) N - bgP A b r (A 33 o) N) ≤ A 35 l ∧ A 35 l ≤ A 35 o + A 13 r * (lhP A b r (A 33 l) N - lhP A b r (A 33 o) N)))) := rfl
  by_cases q0 : A 34 l = A 14 r
  · rw [if_pos (by rw [q0]), zq_165_26, iI_n, iI_sub]
    obtain ⟨n', i', g1, g2, g3⟩ := m_pv (S := S) (b := iI (b : Int)) (l := iI (l : Int)) rfl (show r < 8 by omega) (d + 2) 0 ws ps 999998 (some (.int (iI (ps.length : Int)))) none none none hlen (by omega) hs1 hs2 h8 (by omega)
    refine Eq.trans g2 ?_
    rw [hc, decide_eq_true q0, Bool.true_and]
    obtain ⟨n', rfl⟩ : ∃ m, n' = m + 5 := ⟨n' - 5, by omega⟩
    have ll := lh_r hw (b := b) (r := r) (t := A 33 l) N (by omega)
    rcases g3 with ⟨hp, rfl⟩ | ⟨o, j, rfl, hj, ho, ha, hp⟩
    · rw [hp]
      have m1 := mul_b (a := A 13 r) (b := lhP A b r (A 33 l) N) (x := 60) (y := 4800) (by omega) (by omega) (by omega) (by omega) (by decide)
      rw [zq_165_53, if_neg (by decide +kernel), ixN (show l < 24 by omega) (by decide), cond_true, ixN (show r < 16 by omega) (by decide), cond_true, cond_true, tN (show r < 2147483648 by omega), tN (show l < 2147483648 by omega), m_33 hM hl, m_13 hM hr, m_35 hM hl, show nI 0 = iI 0 from rfl, m_lbE hM hw hN hr hb ⟨by decide, by omega, by omega⟩ d, cli_i, lhP_0 hw N (by omega), Int.sub_zero, iI_mul, iI_n, iI_sub]
      dsimp only
      by_cases q : A 35 l - 1 ≤ A 13 r * lhP A b r (A 33 l) N
      · rw [if_neg (by rw [iI_lt (by omega) (by omega) (by omega) (by omega)]; omega), zq_165_96, ← iI_n, rbn1, cond_true, decide_eq_true q]
        rfl
      · rw [if_pos (by rw [iI_lt (by omega) (by omega) (by omega) (by omega)]; omega), zq_165_95, zq_165_96, rbn0, cond_true, decide_eq_false q]
        rfl
    · rw [hp]
      have hol := hps o ho
      have hor := hw.lr hol.1
      have lo := lh_r hw (b := b) (r := r) (t := A 33 o) N (by omega)
      have m1 := mul_b (a := A 13 r) (b := lhP A b r (A 33 l) N - lhP A b r (A 33 o) N) (x := 60) (y := 4800) (by omega) (by omega) (by omega) (by omega) (by decide)
      have m2 := mul_b (a := A 15 r) (b := bgP A b r (A 33 l) N - bgP A b r (A 33 o) N) (x := 20) (y := 200) (by omega) (by omega) (by omega) (by omega) (by decide)
      rw [zq_165_53, iI_0, if_pos (by rw [iI_le (by decide) (by decide) (by omega) (by omega)]; omega), zq_165_97, ixN (show j < 6 by omega) (by decide), cond_true, tN (show j < 2147483648 by omega), ha, ixN (show o < 24 by omega) (by decide), cond_true, ixN (show r < 16 by omega) (by decide), cond_true, cond_true, ixN (show l < 24 by omega) (by decide), cond_true, tN (show r < 2147483648 by omega), tN (show o < 2147483648 by omega), tN (show l < 2147483648 by omega), m_33 hM hol.1, m_33 hM hl, m_15 hM hr, m_35 hM hol.1, m_bbE hM hw hN hr hb ⟨by omega, hol.2, by omega⟩ d, cli_i]
      rw [cond_true, cond_true, cond_true, cond_true, m_33 hM hol.1, m_33 hM hl, m_13 hM hr, m_35 hM hol.1, m_lbE hM hw hN hr hb ⟨by omega, hol.2, by omega⟩ d, cli_i]
      rw [cond_true, cond_true, m_33 hM hol.1, m_33 hM hl, m_35 hM hl, iI_mul, iI_mul, iI_sub, iI_add]
      dsimp only
      by_cases q1 : A 33 o < A 33 l
      · rw [if_neg (by rw [iI_le (by omega) (by omega) (by omega) (by omega)]; omega), cond_true, m_isI, cli_i]
        by_cases q : A 35 o - A 15 r * (bgP A b r (A 33 l) N - bgP A b r (A 33 o) N) ≤ A 35 l ∧ A 35 l ≤ A 35 o + A 13 r * (lhP A b r (A 33 l) N - lhP A b r (A 33 o) N)
        · rw [if_neg (by rw [if_neg (by rw [iI_lt (by omega) (by omega) (by omega) (by omega), iI_lt (by omega) (by omega) (by omega) (by omega)]; omega)]; decide +kernel), zq_165_219, rbn1, cond_true, decide_eq_true ⟨q1, q⟩]
          rfl
        · rw [if_pos (by rw [if_pos (by rw [iI_lt (by omega) (by omega) (by omega) (by omega), iI_lt (by omega) (by omega) (by omega) (by omega)]; omega)]; rfl), no, decide_eq_false (fun e => q e.2)]
          rfl
      · rw [if_pos (by rw [iI_le (by omega) (by omega) (by omega) (by omega)]; omega), no, decide_eq_false (fun e => q1 e.1)]
        rfl
  · rw [if_neg (by rw [iI_eq (by omega) (by omega) (by omega) (by omega)]; omega), hc, decide_eq_false q0]
    rfl
end MHV
