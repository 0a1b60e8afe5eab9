/-! a whole text: pure -/
abbrev pQ : Type := Sum (List Int × aS) (Int × Nat)
def qB (r : pR) (g : Nat → List Int → pQ) : pQ := match r with
  | .inl x => g x.1 x.2
  | .inr e => .inr e
def pBo (T : Nat → Int) (n : Nat) (B : aS) (s : Nat) (c : List Int) : pR := pB (if B 2 0 = 10 then .inr (2, s) else rBk T n s c) (pSg T n 59)
def pRe (T : Nat → Int) (n : Nat) (B : aS) (s : Nat) (c : List Int) : pR := pB (if B 3 0 = 8 then .inr (2, s) else rRd T n s c) (pSg T n 59)
def pM (T : Nat → Int) (n : Nat) : Nat → Nat → List Int → aS → pQ
  | 0, _, c, B => .inl (c, B)
  | m + 1, s, c, B => if kd T n s = 0 then .inl (c, B) else if wd T n s = 1 then qB (pBo T n B s c) (fun s' c' => pM T n m s' c' (bkB T n B s)) else if wd T n s = 3 then qB (pRe T n B s c) (fun s' c' => pM T n m s' c' (rdB T n B s (c.length : Int) (c'.length : Int))) else .inr (1, s)
theorem pM_s {T : Nat → Int} {n m s : Nat} {c : List Int} {B : aS} : pM T n (m + 1) s c B = if kd T n s = 0 then .inl (c, B) else if wd T n s = 1 then qB (pBo T n B s c) (fun s' c' => pM T n m s' c' (bkB T n B s)) else if wd T n s = 3 then qB (pRe T n B s c) (fun s' c' => pM T n m s' c' (rdB T n B s (c.length : Int) (c'.length : Int))) else .inr (1, s) := rfl
theorem kd_0 {T : Nat → Int} {n s : Nat} : kd T n s = 0 ↔ n ≤ s := by
  unfold kd
  by_cases c : n ≤ s
  · rw [if_pos c]
    omega
  · rw [if_neg c]
    split
    · omega
    · split
      · omega
      · split
        · rename_i h
          have := of_decide_eq_true h
          omega
        · omega
def cfn (c : List Int) : Nat → Int := fun k => c.getD k 0
theorem cfn_l {c w : List Int} {k : Nat} (h : k < c.length) : cfn (c ++ w) k = cfn c k := by
  unfold cfn
  rw [List.getD_eq_getElem?_getD, List.getD_eq_getElem?_getD, List.getElem?_append_left h]
theorem cfn_i {c : List Int} {k : Nat} (h : k < c.length) : cfn c k = c[k] := by
  unfold cfn
  rw [List.getD_eq_getElem?_getD, List.getElem?_eq_getElem h]
  rfl
theorem cdh_f {c c' : Nat → Int} : ∀ (m f h : Nat), (∀ i, i < m → c' (f + i) = c (f + i)) → cdh c' f m h = cdh c f m h
  | 0, f, h, _ => rfl
  | m + 1, f, h, e => by
    have e0 := e 0 (by omega)
    rw [Nat.add_zero] at e0
    have es : ∀ i, i < m → c' (f + 1 + i) = c (f + 1 + i) := fun i hi => by
      have := e (i + 1) (by omega)
      rw [show f + 1 + i = f + (i + 1) by omega]
      exact this
    unfold cdh
    rw [e0, cdh_f m (f + 1) (h + 1) es, cdh_f m (f + 1) h es, cdh_f m (f + 1) (h - 1) es]
def PB (B : aS) (c : List Int) : Prop := (0 ≤ B 2 0 ∧ B 2 0 ≤ 10) ∧ (0 ≤ B 3 0 ∧ B 3 0 ≤ 8) ∧ (∀ b : Nat, (b : Int) < B 2 0 → (1 ≤ B 11 b ∧ B 11 b ≤ 400) ∧ 0 ≤ B 12 b ∧ B 12 b ≤ 400) ∧
  (∀ r : Nat, (r : Int) < B 3 0 → (1 ≤ B 13 r ∧ B 13 r ≤ 60) ∧ (0 ≤ B 14 r ∧ B 14 r ≤ 3) ∧ (0 ≤ B 15 r ∧ B 15 r ≤ 20) ∧ (B 16 r = 0 ∨ B 16 r = 1) ∧ (0 ≤ B 17 r ∧ B 17 r ≤ B 18 r ∧ B 18 r ≤ (c.length : Int)) ∧ (B 17 r = B 18 r ∨ cdh (cfn c) (B 17 r).toNat (B 18 r - B 17 r).toNat 0 = some 1)) ∧ (∀ v, v ∈ c → cok v)
section PT
variable {T : Nat → Int} {n s : Nat} {c : List Int} {B : aS}
theorem pBo_i {s' : Nat} {c' : List Int} (h : pBo T n B s c = .inl (s', c')) : B 2 0 ≠ 10 ∧ c' = c ∧ s < s' ∧ s' ≤ n ∧ (1 ≤ nb T n (nx T n s) ∧ nb T n (nx T n s) ≤ 400) ∧ (0 ≤ ovI T n 2 (nx T n (nx T n s)) ∧ ovI T n 2 (nx T n (nx T n s)) ≤ 400) ∧ ∃ y, rBk T n s c = .inl y := by
  unfold pBo at h
  obtain ⟨s2, c2, h1, h2⟩ := pB_inl h
  by_cases e : B 2 0 = 10
  · rw [if_pos e] at h1
    cases h1
  · rw [if_neg e] at h1
    have h1' := h1
    unfold rBk at h1
    obtain ⟨s1, c1, g1, g2⟩ := pB_inl h1
    obtain ⟨a1, a2, a3, a4, a5⟩ := pNm_i g1
    obtain ⟨b1, b2, b3, b4, b5⟩ := pOp_i (by omega) a5 g2
    obtain ⟨d1, d2, d3, d4⟩ := pSg_i (by omega) h2
    rw [a1] at b3
    have hss : s < nx T n s ∨ n ≤ s := by
      by_cases hs : s < n
      · exact Or.inl (nx_r (T := T) hs).1
      · exact Or.inr (by omega)
    have hsx : s ≤ nx T n s ∨ n < s := by
      rcases hss with q | q
      · exact Or.inl (by omega)
      · by_cases q2 : n < s
        · exact Or.inr q2
        · left
          unfold nx
          have : en T n s = s := by
            unfold en
            rw [if_pos q]
          rw [this]
          have := rn_r (P := tkB) (T := T) (n := n) (q := s) (by omega)
          omega
    refine ⟨e, by rw [d2, b2, a2], ?_, d4, a3, by omega, _, h1'⟩
    rcases hsx with q | q
    · omega
    · exfalso
      have hk : kd T n (nx T n s) ≠ 0 := by
        intro hz
        unfold pNm at g1
        rw [if_neg (by omega)] at g1
        cases g1
      have hlt := kd_lt hk
      have hn2 : nx T n s = s := by
        unfold nx en
        rw [if_pos (by omega)]
        unfold rn
        rw [show n - s = 0 by omega]
        rfl
      omega
theorem PB.bk (h : PB B c) (h10 : B 2 0 ≠ 10) (h1 : 1 ≤ nb T n (nx T n s) ∧ nb T n (nx T n s) ≤ 400) (h2 : 0 ≤ ovI T n 2 (nx T n (nx T n s)) ∧ ovI T n 2 (nx T n (nx T n s)) ≤ 400) : PB (bkB T n B s) c := by
  obtain ⟨p1, p2, p3, p4, p5⟩ := h
  obtain ⟨k, hk⟩ : ∃ k : Nat, B 2 0 = (k : Int) := ⟨(B 2 0).toNat, by omega⟩
  have hkn : (B 2 0).toNat = k := by omega
  have g2 : bkB T n B s 2 0 = (k : Int) + 1 := by
    unfold bkB
    rw [aU_r, if_pos ⟨rfl, rfl⟩, hk]
  have gx : ∀ x j, x ≠ 2 → x ≠ 11 → x ≠ 12 → bkB T n B s x j = B x j := by
    intro x j a1 a2 a3
    unfold bkB
    rw [aU_r, if_neg (by omega), aU_r, if_neg (by omega), aU_r, if_neg (by omega)]
  have g11 : ∀ j, bkB T n B s 11 j = if j = k then nb T n (nx T n s) else B 11 j := by
    intro j
    unfold bkB
    rw [aU_r, if_neg (by omega), aU_r, if_neg (by omega), aU_r, hkn]
    by_cases e : j = k
    · rw [if_pos ⟨rfl, e⟩, if_pos e]
    · rw [if_neg (by omega), if_neg e]
  have g12 : ∀ j, bkB T n B s 12 j = if j = k then ovI T n 2 (nx T n (nx T n s)) else B 12 j := by
    intro j
    unfold bkB
    rw [aU_r, if_neg (by omega), aU_r, hkn]
    by_cases e : j = k
    · rw [if_pos ⟨rfl, e⟩, if_pos e]
    · rw [if_neg (by omega), if_neg e, aU_r, if_neg (by omega)]
  refine ⟨by rw [g2]; omega, by rw [gx 3 0 (by decide) (by decide) (by decide)]; exact p2, fun b hb => ?_, fun r hr => ?_, p5⟩
  · rw [g2] at hb
    rw [g11, g12]
    by_cases e : b = k
    · rw [if_pos e, if_pos e]
      exact ⟨h1, h2⟩
    · rw [if_neg e, if_neg e]
      exact p3 b (by omega)
  · rw [gx 3 0 (by decide) (by decide) (by decide)] at hr
    rw [gx 13 r (by decide) (by decide) (by decide), gx 14 r (by decide) (by decide) (by decide), gx 15 r (by decide) (by decide) (by decide), gx 16 r (by decide) (by decide) (by decide), gx 17 r (by decide) (by decide) (by decide), gx 18 r (by decide) (by decide) (by decide)]
    exact p4 r hr
theorem pRe_i (hT : ∀ k, k < n → 0 ≤ T k ∧ T k ≤ 255) (hs : s < n) {s' : Nat} {c' : List Int} (h : pRe T n B s c = .inl (s', c')) : B 3 0 ≠ 8 ∧ s < s' ∧ s' ≤ n ∧ (1 ≤ nb T n (nx T n s) ∧ nb T n (nx T n s) ≤ 60) ∧ (0 ≤ ovI T n 4 (rd1 T n s) ∧ ovI T n 4 (rd1 T n s) ≤ 3) ∧ (0 ≤ ovI T n 5 (rd2 T n s) ∧ ovI T n 5 (rd2 T n s) ≤ 20) ∧ (∃ y, rRd T n s c = .inl y ∧ y.2 = c') ∧ ∃ w : List Int, c' = c ++ w ∧ w.length ≤ s' - s ∧ (∀ v, v ∈ w → cok v) ∧ (w = [] ∨ hg w 0 = some 1) := by
  unfold pRe at h
  obtain ⟨s7, c7, h1, h2⟩ := pB_inl h
  by_cases e : B 3 0 = 8
  · rw [if_pos e] at h1
    cases h1
  · rw [if_neg e] at h1
    have h1' := h1
    have hx := nx_r (T := T) hs
    unfold rRd rR3 at h1
    obtain ⟨s5, c5, y5, y6⟩ := pB_inl h1
    obtain ⟨s4, c4, y4, y5'⟩ := pB_inl y5
    obtain ⟨s3, c3, y3, y3'⟩ := pB_inl y4
    obtain ⟨s2, c2, y2, y2'⟩ := pB_inl y3
    obtain ⟨a1, a2, a3, a4, a5⟩ := pNm_i y2
    obtain ⟨b1, b2, b3, b4, b5⟩ := pOp_i (by omega) a5 y2'
    obtain ⟨e1, e2, e3, e4, e5⟩ := pOp_i (by omega) b5 y3'
    obtain ⟨d1, d2, d3, d4⟩ := pSg_i (by omega) h2
    have q1 : s2 = rd1 T n s := a1
    have q2 : s3 = rd2 T n s := by rw [b1, q1]; rfl
    rw [q1] at b3
    rw [q2] at e3
    have hc4 : c4 = c := by rw [e2, b2, a2]
    unfold pW at y5'
    cases y5'
    have hs5 : s4 ≤ (if wd T n s4 = 6 then nx T n s4 else s4) ∧ (if wd T n s4 = 6 then nx T n s4 else s4) ≤ n := by
      split
      · have := nx_r (T := T) (wd_lt (T := T) (n := n) (s := s4) (by omega)).1
        omega
      · exact ⟨Nat.le_refl _, e5⟩
    obtain ⟨t, ht⟩ : ∃ t, t = (if wd T n s4 = 6 then nx T n s4 else s4) := ⟨_, rfl⟩
    rw [← ht] at y6 hs5
    refine ⟨e, ?_, d4, a3, by omega, by omega, ⟨_, h1', by rw [d2]⟩, ?_⟩
    · unfold pLw at y6
      by_cases e7 : wd T n t = 7
      · rw [if_pos e7] at y6
        have hx7 := nx_r (T := T) (wd_lt (T := T) (n := n) (s := t) (by omega)).1
        obtain ⟨g1, g2, -⟩ := pL_g hT 30 0 0 _ _ (by omega) hx7.2 _ _ y6
        omega
      · rw [if_neg e7] at y6
        cases y6
        omega
    · unfold pLw at y6
      by_cases e7 : wd T n t = 7
      · rw [if_pos e7] at y6
        have hx7 := nx_r (T := T) (wd_lt (T := T) (n := n) (s := t) (by omega)).1
        obtain ⟨g1, g2, w, g3, g4, g5, g6⟩ := pL_g hT 30 0 0 _ _ (by omega) hx7.2 _ _ y6
        exact ⟨w, by rw [d2, g3, hc4], by omega, g5, Or.inr (g6 0 (by omega))⟩
      · rw [if_neg e7] at y6
        cases y6
        exact ⟨[], by rw [d2, hc4, List.append_nil], Nat.zero_le _, fun v hv => absurd hv List.not_mem_nil, Or.inl rfl⟩
theorem PB.rd {w : List Int} (h : PB B c) (h8 : B 3 0 ≠ 8) (h1 : 1 ≤ nb T n (nx T n s) ∧ nb T n (nx T n s) ≤ 60) (h2 : 0 ≤ ovI T n 4 (rd1 T n s) ∧ ovI T n 4 (rd1 T n s) ≤ 3) (h3 : 0 ≤ ovI T n 5 (rd2 T n s) ∧ ovI T n 5 (rd2 T n s) ≤ 20) (h4 : ∀ v, v ∈ w → cok v) (h5 : w = [] ∨ hg w 0 = some 1) : PB (rdB T n B s (c.length : Int) ((c ++ w).length : Int)) (c ++ w) := by
  obtain ⟨p1, p2, p3, p4, p5⟩ := h
  obtain ⟨k, hk⟩ : ∃ k : Nat, B 3 0 = (k : Int) := ⟨(B 3 0).toNat, by omega⟩
  have hkn : (B 3 0).toNat = k := by omega
  have hl : (c ++ w).length = c.length + w.length := List.length_append
  obtain ⟨l', hl'⟩ : ∃ l' : Int, l' = ((c ++ w).length : Int) := ⟨_, rfl⟩
  have gx : ∀ x j, x ≠ 3 → (x < 13 ∨ 18 < x) → rdB T n B s (c.length : Int) l' x j = B x j := by
    intro x j a1 a2
    unfold rdB
    rw [aU_r, if_neg (by omega), aU_r, if_neg (by omega), aU_r, if_neg (by omega), aU_r, if_neg (by omega), aU_r, if_neg (by omega), aU_r, if_neg (by omega), aU_r, if_neg (by omega)]
  have go : ∀ x j, x ≠ 3 → j ≠ k → rdB T n B s (c.length : Int) l' x j = B x j := by
    intro x j a1 a2
    unfold rdB
    rw [hkn, aU_r, if_neg (by omega), aU_r, if_neg (by omega), aU_r, if_neg (by omega), aU_r, if_neg (by omega), aU_r, if_neg (by omega), aU_r, if_neg (by omega), aU_r, if_neg (by omega)]
  have g3 : rdB T n B s (c.length : Int) l' 3 0 = (k : Int) + 1 := by
    unfold rdB
    rw [aU_r, if_pos ⟨rfl, rfl⟩, hk]
  have gk : rdB T n B s (c.length : Int) l' 13 k = nb T n (nx T n s) ∧ rdB T n B s (c.length : Int) l' 14 k = ovI T n 4 (rd1 T n s) ∧ rdB T n B s (c.length : Int) l' 15 k = ovI T n 5 (rd2 T n s) ∧ rdB T n B s (c.length : Int) l' 16 k = (if wd T n (rd3 T n s) = 6 then 1 else 0) ∧ rdB T n B s (c.length : Int) l' 17 k = (c.length : Int) ∧ rdB T n B s (c.length : Int) l' 18 k = l' := by
    unfold rdB
    rw [hkn]
    refine ⟨?_, ?_, ?_, ?_, ?_, ?_⟩ <;> simp [aU_r]
  rw [← hl']
  refine ⟨by rw [gx 2 0 (by decide) (by decide)]; exact p1, by rw [g3]; omega, fun b hb => ?_, fun r hr => ?_, fun v hv => ?_⟩
  · rw [gx 2 0 (by decide) (by decide)] at hb
    rw [gx 11 b (by decide) (by decide), gx 12 b (by decide) (by decide)]
    exact p3 b hb
  · rw [g3] at hr
    by_cases e : r = k
    · subst e
      obtain ⟨k1, k2, k3, k4, k5, k6⟩ := gk
      rw [k1, k2, k3, k4, k5, k6]
      refine ⟨h1, h2, h3, ?_, by omega, ?_⟩
      · split <;> omega
      · rcases h5 with h5 | h5
        · left
          rw [hl', h5, List.append_nil]
        · right
          rw [show (l' - (c.length : Int)).toNat = w.length by omega, show ((c.length : Int)).toNat = c.length by omega]
          rw [cdh_hg w c.length 0 (fun i hi => ?_)]
          · exact h5
          · rw [cfn_i (by omega)]
            rw [List.getElem_append_right (by omega)]
            congr 1
            omega
    · rw [go 13 r (by decide) e, go 14 r (by decide) e, go 15 r (by decide) e, go 16 r (by decide) e, go 17 r (by decide) e, go 18 r (by decide) e]
      obtain ⟨k1, k2, k3, k4, k5, k6⟩ := p4 r (by omega)
      refine ⟨k1, k2, k3, k4, by omega, ?_⟩
      rcases k6 with k6 | k6
      · exact Or.inl k6
      · right
        rw [cdh_f _ _ _ (fun i hi => cfn_l (by omega))]
        exact k6
  · rw [List.mem_append] at hv
    exact hv.elim (p5 v) (h4 v)
theorem pM_b (hT : ∀ k, k < n → 0 ≤ T k ∧ T k ≤ 255) : ∀ (m s : Nat) (c : List Int) (B : aS) (c' : List Int) (B' : aS), s ≤ n → c.length ≤ s → PB B c → pM T n m s c B = .inl (c', B') → PB B' c' ∧ c'.length ≤ n
  | 0, s, c, B, c', B', hs, hc, h, e => by
    cases e
    exact ⟨h, by omega⟩
  | m + 1, s, c, B, c', B', hs, hc, h, e => by
    rw [pM_s] at e
    by_cases k0 : kd T n s = 0
    · rw [if_pos k0] at e
      cases e
      exact ⟨h, by omega⟩
    · have hlt := kd_lt k0
      rw [if_neg k0] at e
      by_cases w1 : wd T n s = 1
      · rw [if_pos w1] at e
        cases hr : pBo T n B s c with
        | inl x =>
          obtain ⟨s1, c1⟩ := x
          rw [hr] at e
          obtain ⟨a1, a2, a3, a4, a5, a6, -⟩ := pBo_i hr
          subst a2
          exact pM_b hT m s1 c1 (bkB T n B s) c' B' a4 (by omega) (h.bk a1 a5 a6) e
        | inr y =>
          rw [hr] at e
          cases e
      · rw [if_neg w1] at e
        by_cases w3 : wd T n s = 3
        · rw [if_pos w3] at e
          cases hr : pRe T n B s c with
          | inl x =>
            obtain ⟨s1, c1⟩ := x
            rw [hr] at e
            obtain ⟨a1, a2, a3, a4, a5, a6, -, w, a7, a8, a9, a10⟩ := pRe_i hT hlt hr
            subst a7
            have hl : (c ++ w).length = c.length + w.length := List.length_append
            exact pM_b hT m s1 (c ++ w) _ c' B' a3 (by omega) (h.rd a1 a4 a5 a6 a9 a10) e
          | inr y =>
            rw [hr] at e
            cases e
        · rw [if_neg w3] at e
          cases e
end PT
