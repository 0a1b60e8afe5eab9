/-! looks and who may have them: the model -/
def rvb (A : aS) (b : Nat) (but : Int) : Nat → List Nat
  | 0 => []
  | l + 1 => if A 32 l = b ∧ (l : Int) ≠ but then insR (A 33) l (rvb A b but l) else rvb A b but l
theorem rvb_s {A : aS} {b l : Nat} {but : Int} : rvb A b but (l + 1) = if A 32 l = b ∧ (l : Int) ≠ but then insR (A 33) l (rvb A b but l) else rvb A b but l := rfl
theorem rvb_e {A : aS} {b : Nat} : ∀ l, rvb A b (-1) l = rv A b l
  | 0 => rfl
  | l + 1 => by
    rw [rvb_s, rv_s, rvb_e l]
    by_cases h : A 32 l = b
    · rw [if_pos h, if_pos ⟨h, by omega⟩]
    · rw [if_neg h, if_neg (fun e => h e.1)]
theorem rvb_len (A : aS) (b : Nat) (but : Int) : ∀ l, (rvb A b but l).length ≤ lct A b l
  | 0 => Nat.le_refl _
  | l + 1 => by
    have ih := rvb_len A b but l
    have e : lct A b (l + 1) = lct A b l + (if decide (A 32 l = (b : Int)) = true then 1 else 0) := fb_ct_succ _ l
    rw [rvb_s, e]
    by_cases h : A 32 l = b
    · rw [if_pos (show decide (A 32 l = (b : Int)) = true by simpa using h)]
      by_cases h2 : (l : Int) ≠ but
      · rw [if_pos ⟨h, h2⟩, insR_len]; omega
      · rw [if_neg (fun x => h2 x.2)]; omega
    · rw [if_neg (fun x => h x.1)]; omega
theorem rvb_mem {A : aS} {b y : Nat} {but : Int} : ∀ {l}, y ∈ rvb A b but l → y < l ∧ A 32 y = b
  | 0, h => by cases h
  | l + 1, h => by
    rw [rvb_s] at h
    by_cases e : A 32 l = b ∧ (l : Int) ≠ but
    · rw [if_pos e, insR_mem] at h
      rcases h with h | h
      · subst h
        exact ⟨by omega, e.1⟩
      · have := rvb_mem h
        exact ⟨by omega, this.2⟩
    · rw [if_neg e] at h
      have := rvb_mem h
      exact ⟨by omega, this.2⟩
section MRW
variable {A : aS} {S : z_St}
def frR (S S' : z_St) : Prop := (∀ a i, a ≠ 101 → (a ≠ 70 ∨ i ≠ 55) → S'.1 a i = S.1 a i) ∧ S'.2 = S.2
theorem frR.tr {S S1 S2 : z_St} (h : frR S S1) (h2 : frR S1 S2) : frR S S2 := ⟨fun a i q q2 => (h2.1 a i q q2).trans (h.1 a i q q2), h2.2.trans h.2⟩
theorem scr_ne {a : Nat} (h : List.elem a scr = false) : a ≠ 95 ∧ a ≠ 96 ∧ a ≠ 101 ∧ a ≠ 102 ∧ a ≠ 103 ∧ a ≠ 104 ∧ a ≠ 105 ∧ a ≠ 106 ∧ a ≠ 107 ∧ a ≠ 111 ∧ a ≠ 113 := by
  refine ⟨?_, ?_, ?_, ?_, ?_, ?_, ?_, ?_, ?_, ?_, ?_⟩ <;> (rintro rfl; exact absurd h (by decide))
theorem scf_ne {i : Nat} (h : List.elem i scf = true) : i ≠ 55 ∧ i ≠ 56 ∧ i ≠ 1 := by
  refine ⟨?_, ?_, ?_⟩ <;> (rintro rfl; exact absurd h (by decide))
theorem MI.fR {S' : z_St} (h : MI A S) (hw : wf A) (hf : frR S S') : MI A S' := h.sc hw (fun i hi => hf.1 70 i (by decide) (Or.inr (scf_ne hi).1)) (fun a h7 ha i => hf.1 a i (scr_ne ha).2.2.1 (Or.inl h7))
theorem m_in {b l : Nat} {but : Int} (hw : wf A) (hl : (l : Int) < A 6 0) (d z : Nat) : ∀ (t u : List Nat) (n : Nat) (S : z_St) (h0 : Int32), u.length + t.length < 6 → t.length + 3 ≤ n → (∀ y, y ∈ t → (y : Int) < A 6 0) → MI A S → stk (S.1 101) (u.map f0 ++ h0 :: t.map f0) → ∃ S' n' x4, n ≤ n' + t.length + 3 ∧ z_R164 d n 39 z [some (.ref 70), some (.int (iI (b : Int))), some (.int (iI but)), some (.int (iI (l : Int))), some (.int (iI (t.length : Int)))] [] S = z_R164 d n' 107 z [some (.ref 70), some (.int (iI (b : Int))), some (.int (iI but)), some (.int (iI (l : Int))), x4] [] S' ∧ stk (S'.1 101) ((u ++ insR (A 33) l t).map f0) ∧ S'.1 70 55 = S.1 70 55 + nI 1 ∧ frR S S' := by
  have hk := hw.k
  have hlr := hw.lr hl
  have fin : ∀ (t u : List Nat) (n : Nat) (S : z_St) (h0 : Int32), u.length + t.length < 6 → stk (S.1 101) (u.map f0 ++ h0 :: t.map f0) → ∃ S' n' x4, n + 1 ≤ n' + t.length + 2 ∧ z_R164 d (n + 1) 89 z [some (.ref 70), some (.int (iI (b : Int))), some (.int (iI but)), some (.int (iI (l : Int))), some (.int (iI (t.length : Int)))] [] S = z_R164 d n' 107 z [some (.ref 70), some (.int (iI (b : Int))), some (.int (iI but)), some (.int (iI (l : Int))), x4] [] S' ∧ stk (S'.1 101) ((u ++ l :: t).map f0) ∧ S'.1 70 55 = S.1 70 55 + nI 1 ∧ frR S S' := by
    intro t u n S h0 hlen hs
    refine ⟨(z_w1 (z_w1 S.1 101 t.length (f0 l)) 70 55 (S.1 70 55 + nI 1), S.2), n, some (.int (iI (t.length : Int))), by omega, ?_, ?_, ?_, fun a i h1 h2 => ?_, rfl⟩
    · rw [zq_164_89, ixN (by omega) (by decide), cond_true, tN (by omega)]
      rfl
    · have := stk_set (v := f0 l) (u.map f0) hs
      rw [List.length_map] at this
      rw [List.map_append, List.map_cons]
      refine stk_up _ this (fun i _ => ?_)
      dsimp only
      rw [z_w1_r, if_neg (by omega), z_w1_r]
      by_cases e : i = t.length
      · rw [if_pos ⟨rfl, e⟩, if_pos e]
      · rw [if_neg (fun z => e z.2), if_neg e]
    · dsimp only
      rw [z_w1_r, if_pos ⟨rfl, rfl⟩]
    · dsimp only
      rw [z_w1_r, if_neg (by omega), z_w1_r, if_neg (by omega)]
  intro t
  induction t with
  | nil =>
    intro u n S h0 hlen hn _ hM hs
    obtain ⟨n, rfl⟩ : ∃ m, n = m + 2 := ⟨n - 2, by omega⟩
    obtain ⟨S', n', x4, g1, g2, g3⟩ := fin [] u n S h0 hlen hs
    refine ⟨S', n', x4, by show n + 2 ≤ n' + 0 + 3; have : n + 1 ≤ n' + 0 + 2 := g1; omega, ?_, g3⟩
    rw [zq_164_39, if_pos (by show iI ((0 : Nat) : Int) ≤ 0; decide +kernel)]
    exact g2
  | cons x t ih =>
    intro u n S h0 hlen hn hy hM hs
    have hn : t.length + 1 + 3 ≤ n := hn
    have hlen' : u.length + (t.length + 1) < 6 := hlen
    obtain ⟨n, rfl⟩ : ∃ m, n = m + 2 := ⟨n - 2, by omega⟩
    have hx := hy x List.mem_cons_self
    have hxr := hw.lr hx
    have el : (((x :: t).length : Nat) : Int) = ((t.length + 1 : Nat) : Int) := rfl
    have e1 : iI ((t.length + 1 : Nat) : Int) - nI 1 = iI (t.length : Int) := by
      rw [iI_n, iI_sub]
      congr 1
      omega
    have e2 : iI ((t.length + 1 : Nat) : Int) + (-nI 1) = iI (t.length : Int) := by
      rw [nm1, iI_add]
      congr 1
      omega
    have a0 : S.1 101 t.length = iI (x : Int) := by
      have := stk_at (x := f0 x) (t := t.map f0) (u.map f0 ++ [h0]) (by simpa using hs)
      rwa [List.length_map] at this
    rw [el, zq_164_39, iI_0, if_neg (by rw [iI_le (by omega) (by omega) (by decide) (by decide)]; omega), e1, ixN (show t.length < 6 by omega) (by decide), cond_true, tN (by omega), a0, ixN (show x < 24 by omega) (by decide), cond_true, ixN (show l < 24 by omega) (by decide), cond_true, tN (show x < 2147483648 by omega), tN (show l < 2147483648 by omega), m_33 hM hx, m_33 hM hl, insR_s]
    by_cases q : A 33 l < A 33 x
    · rw [if_pos q, if_neg (by rw [iI_le (by omega) (by omega) (by omega) (by omega)]; omega), cond_true, ixN (show t.length + 1 < 6 by omega) (by decide), cond_true, e2, tN (by omega)]
      have hs4 : stk (z_w1 S.1 101 (t.length + 1) (iI (x : Int)) 101) ((u ++ [x]).map f0 ++ f0 x :: t.map f0) := by
        have := stk_set (t := (x :: t).map f0) (v := f0 x) (u.map f0) hs
        rw [List.length_map] at this
        have t2 : stk (fun i => if i = (x :: t).length then f0 x else S.1 101 i) ((u ++ [x]).map f0 ++ f0 x :: t.map f0) := by simpa using this
        refine stk_up _ t2 (fun i _ => ?_)
        rw [z_w1_r]
        by_cases e : i = t.length + 1
        · rw [if_pos ⟨rfl, e⟩, if_pos (show i = (x :: t).length from e)]
          rfl
        · rw [if_neg (fun z => e z.2), if_neg (show ¬ i = (x :: t).length from e)]
      have fq : frR S (z_w1 S.1 101 (t.length + 1) (iI (x : Int)), S.2) := by
        refine ⟨fun a i h1 h2 => ?_, rfl⟩
        dsimp only
        rw [z_w1_r, if_neg (by omega)]
      obtain ⟨S', n', x4, g1, g2, g3, g4, g5⟩ := ih (u ++ [x]) (n + 1) _ _ (by rw [List.length_append]; show u.length + 1 + t.length < 6; omega) (by omega) (fun y hy' => hy y (List.mem_cons_of_mem x hy')) (hM.fR hw fq) hs4
      rw [List.append_assoc] at g3
      refine ⟨S', n', x4, by show n + 2 ≤ n' + (t.length + 1) + 3; omega, g2, g3, ?_, fq.tr g5⟩
      rw [g4]
      dsimp only
      rw [z_w1_r, if_neg (by omega)]
    · rw [if_neg q, if_pos (by rw [iI_le (by omega) (by omega) (by omega) (by omega)]; omega), ← el]
      obtain ⟨S', n', x4, g1, g2, g3⟩ := fin (x :: t) u n S h0 hlen hs
      exact ⟨S', n', x4, by omega, g2, g3⟩
theorem m_lay {b N : Nat} {but : Int} (hw : wf A) (hb : b < 10) (hbut : -1 ≤ but ∧ but < 24) (hN : A 6 0 = N) (d z : Nat) : ∀ (k l n : Nat) (S : z_St) (x4 : Option Value), l + k = N → 12 * k + 2 ≤ n → MI A S → S.1 70 55 = iI ((rvb A b but l).length : Int) → stk (S.1 101) ((rvb A b but l).map f0) → ∃ S', z_R164 d n 7 z [some (.ref 70), some (.int (iI (b : Int))), some (.int (iI but)), some (.int (iI (l : Int))), x4] [] S = some (.inl none, S') ∧ S'.1 70 55 = iI ((rvb A b but N).length : Int) ∧ stk (S'.1 101) ((rvb A b but N).map f0) ∧ frR S S' := by
  have hk := hw.k
  have hb2 := hw.b
  intro k
  induction k with
  | zero =>
    intro l n S x4 hl hn hM h55 hs
    obtain ⟨n, rfl⟩ : ∃ m, n = m + 2 := ⟨n - 2, by omega⟩
    have e : l = N := by omega
    subst e
    refine ⟨S, ?_, h55, hs, fun _ _ _ _ => rfl, rfl⟩
    rw [zq_164_7, m_6 hM, hN, if_pos (by rw [iI_le (by omega) (by omega) (by omega) (by omega)]; omega), zq_164_113]
  | succ k ih =>
    intro l n S x4 hl hn hM h55 hs
    obtain ⟨n, rfl⟩ : ∃ m, n = m + 12 := ⟨n - 12, by omega⟩
    have e2 : (l : Int) + ((1 : Nat) : Int) = ((l + 1 : Nat) : Int) := by omega
    have hr := hw.lr (i := l) (by omega)
    have skip : ∀ (m : Nat) (x4 : Option Value), 12 * k + 2 ≤ m → ¬ (A 32 l = b ∧ (l : Int) ≠ but) → ∃ S', z_R164 d (m + 1) 107 z [some (.ref 70), some (.int (iI (b : Int))), some (.int (iI but)), some (.int (iI (l : Int))), x4] [] S = some (.inl none, S') ∧ S'.1 70 55 = iI ((rvb A b but N).length : Int) ∧ stk (S'.1 101) ((rvb A b but N).map f0) ∧ frR S S' := by
      intro m x4 hm hq
      rw [zq_164_107, iI_n 1, iI_add, e2]
      refine ih (l + 1) m S none (by omega) hm hM ?_ ?_
      · rw [rvb_s, if_neg hq]; exact h55
      · rw [rvb_s, if_neg hq]; exact hs
    rw [zq_164_7, m_6 hM, hN, if_neg (by rw [iI_le (by omega) (by omega) (by omega) (by omega)]; omega), ixN (by omega) (by decide), cond_true, tN (by omega), m_32 hM (by omega)]
    by_cases q : A 32 l = b
    · rw [if_pos (by rw [q])]
      by_cases q2 : (l : Int) = but
      · rw [if_pos (by rw [q2])]
        exact skip (n + 10) _ (by omega) (fun e => e.2 q2)
      · have hlen : (rvb A b but l).length < 6 := by
          have h0 := rvb_len A b but l
          have h1 : lct A b (l + 1) ≤ lct A b (A 6 0).toNat := fb_ct_mono _ (by omega)
          have h2 := hw.lc b
          have h3 : lct A b (l + 1) = lct A b l + 1 := by
            show fb_ct _ (l + 1) = _
            rw [fb_ct_succ]
            simp [q, lct]
          omega
        obtain ⟨S1, n1, y4, g1, g2, g3, g4, g5⟩ := m_in (b := b) (but := but) hw (l := l) (by omega) d z (rvb A b but l) [] (n + 10) S (S.1 101 (rvb A b but l).length) (by simpa using hlen) (by omega) (fun y hy => by have := (rvb_mem hy).1; omega) hM ⟨by rw [List.length_map], hs⟩
        obtain ⟨n1, rfl⟩ : ∃ m, n1 = m + 1 := ⟨n1 - 1, by omega⟩
        obtain ⟨S2, a1, a2, a3, a4⟩ := ih (l + 1) n1 S1 none (by omega) (by omega) (hM.fR hw g5) (by rw [g4, h55, rvb_s, if_pos ⟨q, q2⟩, insR_len, iI_n, iI_add]; congr 1) (by rw [rvb_s, if_pos ⟨q, q2⟩]; exact g3)
        refine ⟨S2, ?_, a2, a3, g5.tr a4⟩
        rw [if_neg (by rw [iI_eq (by omega) (by omega) (by omega) (by omega)]; exact q2), zq_164_33, h55, g2, zq_164_107, iI_n 1, iI_add, e2]
        exact a1
    · rw [if_neg (by rw [iI_eq (by omega) (by omega) (by omega) (by omega)]; exact q)]
      exact skip (n + 10) _ (by omega) (fun e => q e.1)
/-! hours and loans between two hours -/
theorem m_lb2 {b r N : Nat} {f t : Int} (hM : MI A S) (hw : wf A) (hN : A 4 0 = N) (hr : (r : Int) < A 3 0) (hb : (b : Int) < A 2 0) (hf : 0 ≤ f ∧ f ≤ t ∧ t ≤ 8759) (d z : Nat) : ∀ (k i n : Nat) (x : Int), i + k = N → 3 * k + 2 ≤ n → x = lhP A b r t i - lhP A b r f i → z_R162 (d + 1) n 6 z [some (.ref 70), some (.int (iI (r : Int))), some (.int (iI (b : Int))), some (.int (iI f)), some (.int (iI t)), some (.int (iI x)), some (.int (iI (i : Int)))] [] S = some (.inl (some (.int (iI (lhP A b r t N - lhP A b r f N)))), S) := by
  have hl := hw.l
  have hb2 := hw.b
  have hr2 := hw.r
  intro k
  induction k with
  | zero =>
    intro i n x hi hn hx
    obtain ⟨n, rfl⟩ : ∃ m, n = m + 2 := ⟨n - 2, by omega⟩
    have e : i = N := by omega
    subst e
    rw [zq_162_6, m_4 hM, hN, if_pos (by rw [iI_le (by omega) (by omega) (by omega) (by omega)]; omega), zq_162_87, hx]
  | succ k ih =>
    intro i n x hi hn hx
    obtain ⟨n, rfl⟩ : ∃ m, n = m + 3 := ⟨n - 3, by omega⟩
    have e2 : (i : Int) + ((1 : Nat) : Int) = ((i + 1 : Nat) : Int) := by omega
    have ei : (i : Int) < A 4 0 := by omega
    have hrow := hw.L.2.2.2.2.2.2.2.2.2.1 i ei
    have u1 : ∀ y : Int, lhP A b r y (i + 1) = lhP A b r y i + (if A 26 i = r ∧ A 27 i = b ∧ A 28 i < y then mnI (A 29 i) (y - A 28 i) else 0) := fun _ => rfl
    rw [zq_162_6, m_4 hM, hN, if_neg (by rw [iI_le (by omega) (by omega) (by omega) (by omega)]; omega), ixN (by omega) (by decide), cond_true, tN (by omega), m_26 hM ei]
    by_cases q : A 26 i = r
    · rw [if_pos (by rw [q]), cond_true, m_27 hM ei]
      by_cases q2 : A 27 i = b
      · have m1 := mnI_or t (A 28 i + A 29 i)
        have m2 := mxI_ge f (A 28 i)
        have m3 := mxI_or f (A 28 i)
        have m4 := mnI_or (A 29 i) (t - A 28 i)
        have m5 := mnI_or (A 29 i) (f - A 28 i)
        have m6 := mxI_ge 0 (mnI t (A 28 i + A 29 i) - mxI f (A 28 i))
        have m7 := mxI_or 0 (mnI t (A 28 i + A 29 i) - mxI f (A 28 i))
        rw [if_pos (by rw [q2]), zq_162_40, ixN (by omega) (by decide), cond_true, cond_true, tN (by omega), m_28 hM ei, m_29 hM ei, iI_add, zy_188 d _ _ S (by omega) (by omega) (by omega) (by omega), cli_i, cond_true, m_28 hM ei, zy_187 d _ _ S (by omega) (by omega) (by omega) (by omega), cli_i, show nI 0 = iI 0 from rfl, iI_sub, zy_187 d _ _ S (by decide) (by decide) (by omega) (by omega), cli_i, iI_add, zq_162_81, iI_n 1, iI_add, e2]
        refine ih (i + 1) n _ (by omega) (by omega) ?_
        rw [u1, u1, hx]
        by_cases q3 : A 28 i < t
        · rw [if_pos ⟨q, q2, q3⟩]
          by_cases q4 : A 28 i < f
          · rw [if_pos ⟨q, q2, q4⟩]; omega
          · rw [if_neg (fun e => q4 e.2.2)]; omega
        · rw [if_neg (fun e => q3 e.2.2), if_neg (fun e => q3 (by have := e.2.2; omega))]; omega
      · rw [if_neg (by rw [iI_eq (by omega) (by omega) (by omega) (by omega)]; exact q2), zq_162_81, iI_n 1, iI_add, e2]
        refine ih (i + 1) (n + 1) x (by omega) (by omega) ?_
        rw [u1, u1, hx, if_neg (fun e => q2 e.2.1), if_neg (fun e => q2 e.2.1)]; omega
    · rw [if_neg (by rw [iI_eq (by omega) (by omega) (by omega) (by omega)]; exact q), zq_162_81, iI_n 1, iI_add, e2]
      refine ih (i + 1) (n + 1) x (by omega) (by omega) ?_
      rw [u1, u1, hx, if_neg (fun e => q e.1), if_neg (fun e => q e.1)]; omega
theorem m_bb2 {b r N : Nat} {f t : Int} (hM : MI A S) (hw : wf A) (hN : A 4 0 = N) (hr : (r : Int) < A 3 0) (hb : (b : Int) < A 2 0) (hf : 0 ≤ f ∧ f ≤ t ∧ t ≤ 8759) (d z : Nat) : ∀ (k i n : Nat) (x : Int), i + k = N → 3 * k + 2 ≤ n → x = bgP A b r t i - bgP A b r f i → z_R163 (d + 1) n 6 z [some (.ref 70), some (.int (iI (r : Int))), some (.int (iI (b : Int))), some (.int (iI f)), some (.int (iI t)), some (.int (iI x)), some (.int (iI (i : Int)))] [] S = some (.inl (some (.int (iI (bgP A b r t N - bgP A b r f N)))), S) := by
  have hl := hw.l
  have hb2 := hw.b
  have hr2 := hw.r
  intro k
  induction k with
  | zero =>
    intro i n x hi hn hx
    obtain ⟨n, rfl⟩ : ∃ m, n = m + 2 := ⟨n - 2, by omega⟩
    have e : i = N := by omega
    subst e
    rw [zq_163_6, m_4 hM, hN, if_pos (by rw [iI_le (by omega) (by omega) (by omega) (by omega)]; omega), zq_163_71, hx]
  | succ k ih =>
    intro i n x hi hn hx
    obtain ⟨n, rfl⟩ : ∃ m, n = m + 3 := ⟨n - 3, by omega⟩
    have e2 : (i : Int) + ((1 : Nat) : Int) = ((i + 1 : Nat) : Int) := by omega
    have ei : (i : Int) < A 4 0 := by omega
    have hrow := hw.L.2.2.2.2.2.2.2.2.2.1 i ei
    have u1 : ∀ y : Int, bgP A b r y (i + 1) = bgP A b r y i + (if A 26 i = r ∧ A 27 i = b ∧ A 28 i < y then 1 else 0) := fun _ => rfl
    have no : ∀ (m : Nat) (x5 : Option Value), bgP A b r t (i + 1) - bgP A b r f (i + 1) = x → 3 * k + 2 ≤ m → z_R163 (d + 1) (m + 2) 61 z [some (.ref 70), some (.int (iI (r : Int))), some (.int (iI (b : Int))), some (.int (iI f)), some (.int (iI t)), x5, some (.int (iI (i : Int)))] [.int (iI x)] S = some (.inl (some (.int (iI (bgP A b r t N - bgP A b r f N)))), S) := by
      intro m x5 h1 h2
      rw [zq_163_61, zq_163_62, iI_n 1, iI_n 0, iI_add, iI_add, e2]
      exact ih (i + 1) m _ (by omega) h2 (by omega)
    rw [zq_163_6, m_4 hM, hN, if_neg (by rw [iI_le (by omega) (by omega) (by omega) (by omega)]; omega), ixN (by omega) (by decide), cond_true, tN (by omega), m_26 hM ei]
    by_cases q : A 26 i = r
    · rw [if_pos (by rw [q]), cond_true, m_27 hM ei]
      by_cases q2 : A 27 i = b
      · rw [if_pos (by rw [q2]), cond_true, m_28 hM ei, show iI t - nI 1 = iI (t - 1) by rw [iI_n, iI_sub]; rfl, zy_112 d _ _ _ S (by omega) (by omega) (by omega) (by omega) (by omega) (by omega), cli_i]
        by_cases q3 : f ≤ A 28 i ∧ A 28 i ≤ t - 1
        · rw [if_neg (by rw [b01]; exact fun e => e q3), zq_163_62, iI_n 1, iI_add, iI_add, e2]
          refine ih (i + 1) (n + 1) _ (by omega) (by omega) ?_
          rw [u1, u1, if_pos ⟨q, q2, by omega⟩, if_neg (fun e => by have := e.2.2; omega), hx]
          omega
        · rw [if_pos (by rw [b01]; exact q3)]
          refine no n _ ?_ (by omega)
          rw [u1, u1, hx]
          by_cases q4 : A 28 i < f
          · rw [if_pos ⟨q, q2, by omega⟩, if_pos ⟨q, q2, q4⟩]; omega
          · rw [if_neg (fun e => by have := e.2.2; omega), if_neg (fun e => q4 e.2.2)]; omega
      · rw [if_neg (by rw [iI_eq (by omega) (by omega) (by omega) (by omega)]; exact q2)]
        refine no n _ ?_ (by omega)
        rw [u1, u1, hx, if_neg (fun e => q2 e.2.1), if_neg (fun e => q2 e.2.1)]; omega
    · rw [if_neg (by rw [iI_eq (by omega) (by omega) (by omega) (by omega)]; exact q)]
      refine no n _ ?_ (by omega)
      rw [u1, u1, hx, if_neg (fun e => q e.1), if_neg (fun e => q e.1)]; omega
theorem lhP_0 {b r : Nat} (hw : wf A) : ∀ i : Nat, (i : Int) ≤ A 4 0 → lhP A b r 0 i = 0
  | 0, _ => rfl
  | i + 1, hi => by
    have hrow := hw.L.2.2.2.2.2.2.2.2.2.1 i (by omega)
    show lhP A b r 0 i + (if A 26 i = r ∧ A 27 i = b ∧ A 28 i < 0 then mnI (A 29 i) (0 - A 28 i) else 0) = 0
    rw [lhP_0 hw i (by omega), if_neg (fun e => by have := e.2.2; omega)]
    rfl
end MRW
