/-! the class's parser: levels -/
theorem pB_r0 (r : pR) : pB r (fun s c => .inl (s, c ++ List.replicate 0 (-28))) = r := by
  cases r with
  | inl x =>
    show Sum.inl (x.1, x.2 ++ []) = _
    rw [List.append_nil]
  | inr e => rfl
section CL
variable {T : Nat → Int} {n q : Nat}
def opG (T : Nat → Int) (n q D lev ar : Nat) (o : Nat → List Int → pR) : Prop := ∀ (r : pR) (S : z_St), RC T n q r S → ∃ S', z_ew D 31 [.ref 22, .int (iI (lev : Int)), .int (iI (ar : Int))] S = some (.inl none, S') ∧ RC T n q (pB r o) S' ∧ frC q S S'
def lvG (T : Nat → Int) (n q D lev ar : Nat) (o : Nat → List Int → pR) : Prop := ∀ (r : pR) (S : z_St), RC T n q r S → ∃ S', z_ew D 30 [.ref 22, .int (iI (lev : Int)), .int (iI (ar : Int))] S = some (.inl none, S') ∧ RC T n q (pB r o) S' ∧ frC q S S'
theorem c_t96 (hq : q = 2 ∨ q = 12) (hn : n ≤ 700) (D k : Nat) (hk : k ≤ 6) : ∀ (j i fu : Nat) (r : pR) (S : z_St), i + j = k → j + 2 ≤ fu → RC T n q r S → (∀ x, r = .inl x → x.2.length + j ≤ x.1) → ∃ S', z_R30 (D + 1) fu 96 0 [some (.ref 22), none, none, some (.int (iI (k : Int))), none, some (.int (iI (i : Int))), none] [] S = some (.inl none, S') ∧ RC T n q (pB r (fun s c => .inl (s, c ++ List.replicate j (-28)))) S' ∧ frC q S S' := by
  intro j
  induction j with
  | zero =>
    intro i fu r S hi hf h _
    obtain ⟨fu, rfl⟩ : ∃ f, fu = f + 2 := ⟨fu - 2, by omega⟩
    refine ⟨S, ?_, ?_, frC.rf S⟩
    · rw [zq_30_96, if_pos (by rw [iI_le (by omega) (by omega) (by omega) (by omega)]; omega), zq_30_117]
    · rw [pB_r0]
      exact h
  | succ j ih =>
    intro i fu r S hi hf h hb
    obtain ⟨fu, rfl⟩ : ∃ f, fu = f + 1 := ⟨fu - 1, by omega⟩
    have hO3 := (z_at_q hq).1
    rw [zq_30_96, if_neg (by rw [iI_le (by omega) (by omega) (by omega) (by omega)]; omega), show (-nI 33 : Int32) = iI (enc (-28)) from rfl, iI_n 1, iI_add, show (i : Int) + ((1 : Nat) : Int) = ((i + 1 : Nat) : Int) by omega]
    cases r with
    | inl x =>
      obtain ⟨s, c⟩ := x
      have hbb : c.length + (j + 1) ≤ s := hb _ rfl
      have hs : s ≤ n := h.1
      have hO : OKc T n q s c S := h.2.2
      obtain ⟨q1, q2⟩ := q_n1 (S := S) hq hO.2.2.1
      obtain ⟨S1, b1, b2, b3⟩ := cp_put hq hO (by omega) (-28) D
      have hl : (c ++ [(-28 : Int)]).length = c.length + 1 := by rw [List.length_append]; rfl
      obtain ⟨S2, e1, e2, e3⟩ := ih (i + 1) fu (.inl (s, c ++ [-28])) S1 (by omega) (by omega) ⟨hs, by show (c ++ [(-28 : Int)]).length ≤ s; omega, b2⟩ (fun x hx => by cases hx; show (c ++ [(-28 : Int)]).length + j ≤ s; omega)
      refine ⟨S2, ?_, ?_, b3.tr e3⟩
      · rw [q1, cond_false, q2, hO3, cond_true, b1, clv_v, e1]
      · have e2 : RC T n q (.inl (s, c ++ [-28] ++ List.replicate j (-28))) S2 := e2
        rw [List.append_assoc] at e2
        exact e2
    | inr e =>
      obtain ⟨q1, q2⟩ := q_n1 (S := S) hq h.2.2.2.1
      obtain ⟨S1, b1, b2, b3⟩ := cp_putF hq h (iI (enc (-28))) D
      obtain ⟨S2, e1, e2, e3⟩ := ih (i + 1) fu (.inr e) S1 (by omega) (by omega) b2 (fun x hx => by cases hx)
      refine ⟨S2, ?_, e2, b3.tr e3⟩
      rw [q1, cond_false, q2, hO3, cond_true, b1, clv_v, e1]
theorem c_t93 (hq : q = 2 ∨ q = 12) (hn : n ≤ 700) (D k : Nat) (hk : k ≤ 6) (fu : Nat) (hf : k + 3 ≤ fu) (r : pR) (S : z_St) (h : RC T n q r S) (hb : ∀ x, r = .inl x → x.2.length + k ≤ x.1) (d1 d2 d4 d5 d6 : Option Value) : ∃ S', z_R30 (D + 1) fu 93 0 [some (.ref 22), d1, d2, some (.int (iI (k : Int))), d4, d5, d6] [] S = some (.inl none, S') ∧ RC T n q (pB r (fun s c => .inl (s, c ++ List.replicate k (-28)))) S' ∧ frC q S S' := by
  obtain ⟨fu, rfl⟩ : ∃ f, fu = f + 1 := ⟨fu - 1, by omega⟩
  obtain ⟨S1, b1, b2, b3⟩ := c_t96 hq hn D k hk k 0 fu r S (by omega) (by omega) h hb
  refine ⟨S1, ?_, b2, b3⟩
  rw [zq_30_93, iI_n 0]
  exact b1
theorem c_lpF (hq : q = 2 ∨ q = 12) (hn : n ≤ 700) {D lev ar k most i fu : Nat} (hlev : lev ≤ 4) (hk : k ≤ 6) (hm7 : most ≤ 700) (hi : i ≤ 700) (hf : k + 4 ≤ fu) {e : Int × Nat} {S : z_St} (h : RC T n q (.inr e) S) (d6 : Option Value) : ∃ S', z_R30 (D + 1) fu 37 0 [some (.ref 22), some (.int (iI (lev : Int))), some (.int (iI (ar : Int))), some (.int (iI (k : Int))), some (.int (iI (most : Int))), some (.int (iI (i : Int))), d6] [] S = some (.inl none, S') ∧ RC T n q (.inr e) S' ∧ frC q S S' := by
  obtain ⟨fu, rfl⟩ : ∃ f, fu = f + 1 := ⟨fu - 1, by omega⟩
  have tl := fun d1 d2 d4 d5 d6 => c_t93 hq hn D k hk fu (by omega) (.inr e) S h (fun x hx => by cases hx) d1 d2 d4 d5 d6
  rw [zq_30_37]
  by_cases hm : most ≤ i
  · rw [if_pos (by rw [iI_le (by omega) (by omega) (by omega) (by omega)]; omega)]
    exact tl _ _ _ _ _
  · rw [if_neg (by rw [iI_le (by omega) (by omega) (by omega) (by omega)]; omega), c_jn (v := 0) (w := 0) (by omega) (by omega) h.2.2.2.2.2.2.1 h.2.2.2.2.2.2.2.1 D, cli_i, if_neg (by rw [show jnV 0 0 = -1 from rfl, iI_eq (by omega) (by omega) (by omega) (by omega)]; omega)]
    exact tl _ _ _ _ _
theorem jn_r : -1 ≤ jn T n q ∧ jn T n q ≤ 4 := by
  unfold jn
  repeat' split
  all_goals omega
theorem c_lp (hq : q = 2 ∨ q = 12) (hn : n ≤ 700) {D lev ar k most f : Nat} (hlev : lev ≤ 4) (hk : k ≤ 6) (hm7 : most ≤ 700) {o : Nat → List Int → pR} (hO : opG T n q (D + 3) lev ar o) (hg : ∀ s c, s ≤ n → pG n f s c (o s c)) : ∀ (m i fu s : Nat) (c : List Int) (d6 : Option Value) (S : z_St), i + m = most → m + k + 4 ≤ fu → s ≤ n → c.length + k ≤ s → OKc T n q s c S → ∃ S', z_R30 (D + 3) fu 37 0 [some (.ref 22), some (.int (iI (lev : Int))), some (.int (iI (ar : Int))), some (.int (iI (k : Int))), some (.int (iI (most : Int))), some (.int (iI (i : Int))), d6] [] S = some (.inl none, S') ∧ RC T n q (pB (pLp T n o lev m s c) (fun s c => .inl (s, c ++ List.replicate k (-28)))) S' ∧ frC q S S' := by
  intro m
  induction m with
  | zero =>
    intro i fu s c d6 S hi hf hs hc h
    obtain ⟨fu, rfl⟩ : ∃ f, fu = f + 1 := ⟨fu - 1, by omega⟩
    rw [zq_30_37, if_pos (by rw [iI_le (by omega) (by omega) (by omega) (by omega)]; omega)]
    exact c_t93 hq hn (D + 2) k hk fu (by omega) (.inl (s, c)) S ⟨hs, by show c.length ≤ s; omega, h⟩ (fun x hx => by cases hx; exact hc) _ _ _ _ _
  | succ m ih =>
    intro i fu s c d6 S hi hf hs hc h
    obtain ⟨fu, rfl⟩ : ∃ f, fu = f + 1 := ⟨fu - 1, by omega⟩
    have hjr := jn_r (T := T) (n := n) (q := s)
    have hj := c_jn (kd_r (s := s) h.t) (wd_17 (T := T) (n := n) (s := s)) h.2.1.2.2.1 h.2.1.2.2.2.2.2 (D + 2)
    rw [show jnV (kd T n s) (wd T n s) = jn T n s from rfl] at hj
    rw [zq_30_37, if_neg (by rw [iI_le (by omega) (by omega) (by omega) (by omega)]; omega), hj, cli_i]
    unfold pLp
    by_cases e : jn T n s = lev
    · have hx := nx_r (T := T) (jn_lt (T := T) (n := n) (s := s) (by omega))
      obtain ⟨S1, b1, b2, b3⟩ := c_nx hq hn hs h D
      obtain ⟨S2, e1, e2, e3⟩ := hO (.inl (nx T n s, c)) S1 ⟨hx.2, by show c.length ≤ nx T n s; omega, b2⟩
      have e2 : RC T n q (o (nx T n s) c) S2 := e2
      have hO3 := (z_at_q hq).1
      rw [if_pos (by rw [e]), if_pos e, cp_op h (by omega) (D + 2), cli_i, b1, clv_v, e1, clv_v, iI_neg, Int.neg_neg, iI_n 1, iI_add, show (i : Int) + ((1 : Nat) : Int) = ((i + 1 : Nat) : Int) by omega]
      cases hr : o (nx T n s) c with
      | inl x =>
        obtain ⟨s1, c1⟩ := x
        rw [hr] at e2
        have hO2 : OKc T n q s1 c1 S2 := e2.2.2
        obtain ⟨g1, g2, w, g3, g4, -, -⟩ := hg _ _ hx.2 s1 c1 hr
        have hl1 : c1.length = c.length + w.length := by rw [g3, List.length_append]
        obtain ⟨q1, q2⟩ := q_n1 (S := S2) hq hO2.2.2.1
        obtain ⟨S3, i1, i2, i3⟩ := cp_put hq hO2 (by omega) (opC T n s) (D + 2)
        have hl : (c1 ++ [opC T n s]).length = c1.length + 1 := by rw [List.length_append]; rfl
        obtain ⟨S4, j1, j2, j3⟩ := ih (i + 1) fu s1 (c1 ++ [opC T n s]) (some (.int (iI (-(enc (opC T n s)))))) S3 (by omega) (by omega) g2 (by omega) i2
        refine ⟨S4, ?_, j2, b3.tr (e3.tr (i3.tr j3))⟩
        rw [q1, cond_false, q2, hO3, cond_true, i1, clv_v, j1]
      | inr y =>
        rw [hr] at e2
        obtain ⟨q1, q2⟩ := q_n1 (S := S2) hq e2.2.2.2.1
        obtain ⟨S3, i1, i2, i3⟩ := cp_putF hq e2 (iI (enc (opC T n s))) (D + 2)
        obtain ⟨S4, j1, j2, j3⟩ := c_lpF (D := D + 2) (lev := lev) (ar := ar) (k := k) (most := most) (i := i + 1) (fu := fu) hq hn hlev hk hm7 (by omega) (by omega) (show RC T n q (.inr y) S3 from i2) (some (.int (iI (-(enc (opC T n s))))))
        refine ⟨S4, ?_, j2, b3.tr (e3.tr (i3.tr j3))⟩
        rw [q1, cond_false, q2, hO3, cond_true, i1, clv_v, j1]
    · rw [if_neg (by rw [iI_eq (by omega) (by omega) (by omega) (by omega)]; exact e), if_neg e]
      exact c_t93 hq hn (D + 2) k hk fu (by omega) (.inl (s, c)) S ⟨hs, by show c.length ≤ s; omega, h⟩ (fun x hx => by cases hx; exact hc) _ _ _ _ _
end CL
