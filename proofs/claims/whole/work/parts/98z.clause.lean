/-! clauses: numbers, what may stand -/
def pOp (T : Nat → Int) (n i : Nat) (lo hi : Int) (s : Nat) (c : List Int) : pR := if wd T n s = i then pNm T n lo hi (nx T n s) c else .inl (s, c)
def pW (T : Nat → Int) (n i : Nat) (s : Nat) (c : List Int) : pR := .inl (if wd T n s = i then nx T n s else s, c)
def ovI (T : Nat → Int) (n i s : Nat) : Int := if wd T n s = i then nb T n (nx T n s) else 0
def oPs (T : Nat → Int) (n i s : Nat) : Nat := if wd T n s = i then nx T n (nx T n s) else s
def oWs (T : Nat → Int) (n i s : Nat) : Nat := if wd T n s = i then nx T n s else s
theorem pNm_i {T : Nat → Int} {n s s' : Nat} {lo hi : Int} {c c' : List Int} (h : pNm T n lo hi s c = .inl (s', c')) : s' = nx T n s ∧ c' = c ∧ (lo ≤ nb T n s ∧ nb T n s ≤ hi) ∧ s < s' ∧ s' ≤ n := by
  unfold pNm at h
  by_cases c1 : kd T n s = 1
  · rw [if_pos c1] at h
    by_cases c2 : lo ≤ nb T n s ∧ nb T n s ≤ hi
    · rw [if_pos c2] at h
      cases h
      have hx := nx_r (T := T) (kd_lt (T := T) (n := n) (s := s) (by omega))
      exact ⟨rfl, rfl, c2, hx.1, hx.2⟩
    · rw [if_neg c2] at h
      cases h
  · rw [if_neg c1] at h
    cases h
theorem pOp_i {T : Nat → Int} {n i s s' : Nat} {lo hi : Int} {c c' : List Int} (hi1 : 1 ≤ i) (hs : s ≤ n) (h : pOp T n i lo hi s c = .inl (s', c')) : s' = oPs T n i s ∧ c' = c ∧ (ovI T n i s = 0 ∨ (lo ≤ ovI T n i s ∧ ovI T n i s ≤ hi)) ∧ s ≤ s' ∧ s' ≤ n := by
  unfold pOp at h
  unfold oPs ovI
  by_cases c1 : wd T n s = i
  · rw [if_pos c1] at h ⊢
    have hx := nx_r (T := T) (wd_lt (T := T) (n := n) (s := s) (by omega)).1
    obtain ⟨a1, a2, a3, a4, a5⟩ := pNm_i h
    rw [if_pos c1]
    exact ⟨a1, a2, Or.inr a3, by omega, a5⟩
  · rw [if_neg c1] at h ⊢
    rw [if_neg c1]
    cases h
    exact ⟨rfl, rfl, Or.inl rfl, Nat.le_refl _, hs⟩
theorem pSg_i {T : Nat → Int} {n s s' : Nat} {sg : Int} {c c' : List Int} (h0 : 0 < sg) (h : pSg T n sg s c = .inl (s', c')) : s' = nx T n s ∧ c' = c ∧ s < s' ∧ s' ≤ n := by
  unfold pSg at h
  by_cases c1 : kd T n s = sg
  · rw [if_pos c1] at h
    cases h
    have hx := nx_r (T := T) (kd_lt (T := T) (n := n) (s := s) (by omega))
    exact ⟨rfl, rfl, hx.1, hx.2⟩
  · rw [if_neg c1] at h
    cases h
section CZ
variable {S : z_St} {T : Nat → Int} {n q : Nat}
theorem RC.f {S' : z_St} {r : pR} (h : RC T n q r S) (hf : ∀ a i, a = 1 ∨ a = 22 ∨ a = 23 ∨ (a = q ∧ i = 11) ∨ a = q + 9 → S'.1 a i = S.1 a i) : RC T n q r S' := by
  cases r with
  | inl x =>
    obtain ⟨a1, a2, h0, ⟨k1, k2, k3, k4, k5, k6⟩, h1, h2, h3, h4⟩ := h
    exact ⟨a1, a2, h0.f (fun i => hf 1 i (by omega)), ⟨(hf 23 1 (by omega)).trans k1, (hf 23 2 (by omega)).trans k2, (hf 23 3 (by omega)).trans k3, (hf 23 4 (by omega)).trans k4, (hf 23 5 (by omega)).trans k5, (hf 23 6 (by omega)).trans k6⟩, (hf 22 1 (by omega)).trans h1, ⟨(hf 22 2 (by omega)).trans h2.1, (hf 22 3 (by omega)).trans h2.2⟩, (hf q 11 (by omega)).trans h3, fun i hi => (hf (q + 9) i (by omega)).trans (h4 i hi)⟩
  | inr e =>
    obtain ⟨a1, a2, a3, a4, a5, a6, a7, a8, L, a9, a10⟩ := h
    exact ⟨a1, a2, a3, (hf 22 1 (by omega)).trans a4, (hf 22 2 (by omega)).trans a5, (hf 22 3 (by omega)).trans a6, (hf 23 3 (by omega)).trans a7, (hf 23 6 (by omega)).trans a8, L, a9, (hf q 11 (by omega)).trans a10⟩
theorem c_tn (hq : q = 2 ∨ q = 12) (hn : n ≤ 700) {lo hi : Int} (hlo : 0 ≤ lo) (hlh : lo ≤ hi) (hhi : hi ≤ 9999) {r : pR} (h : RC T n q r S) (d : Nat) : ∃ x S', z_ew (d + 4) 29 [.ref 22, .int (iI lo), .int (iI hi)] S = some (.inl (some (.int x)), S') ∧ RC T n q (pB r (pNm T n lo hi)) S' ∧ frC q S S' ∧ (∀ y, r = .inl y → x = iI (nb T n y.1)) := by
  cases r with
  | inl x =>
    obtain ⟨s, c⟩ := x
    have hs : s ≤ n := h.1
    have hc : c.length ≤ s := h.2.1
    have hO : OKc T n q s c S := h.2.2
    have hk := kd_r (s := s) hO.t
    have hb := nb_0 (s := s) hO.t
    have h3 : S.1 23 3 = iI (kd T n s) := hO.2.1.2.2.1
    have h5 : S.1 23 5 = iI (nb T n s) := hO.2.1.2.2.2.2.1
    have bad : ∀ k : Int, 1 ≤ k ∧ k ≤ 3 → ∃ S', z_ew (d + 3) 24 [.ref 22, .int (iI k)] S = some (.inl none, S') ∧ RC T n q (.inr (k, s)) S' ∧ frC q S S' := fun k hk => c_bad hq hn hk h (d + 1)
    rw [zx_29, h3, h5, show pB (Sum.inl (s, c)) (pNm T n lo hi) = pNm T n lo hi s c from rfl]
    unfold pNm
    by_cases k1 : kd T n s = 1
    · rw [if_pos (show iI (kd T n s) = nI 1 by rw [k1]; rfl), if_pos k1, zq_29_27]
      by_cases ok : lo ≤ nb T n s ∧ nb T n s ≤ hi
      · obtain ⟨S1, b1, b2, b3⟩ := c_nx hq hn hs hO d
        have hx := nx_r (T := T) (kd_lt (T := T) (n := n) (s := s) (by omega))
        rw [if_neg (by rw [iI_lt (by omega) (by omega) (by omega) (by omega)]; omega), if_pos (by rw [iI_le (by omega) (by omega) (by omega) (by omega)]; omega), zq_29_45, b1, clv_v, zq_29_52, if_pos ok]
        exact ⟨_, S1, rfl, ⟨hx.2, by show c.length ≤ nx T n s; omega, b2⟩, b3, fun y hy => by cases hy; rfl⟩
      · obtain ⟨S1, b1, b2, b3⟩ := bad 2 (by omega)
        rw [if_neg ok]
        refine ⟨iI (nb T n s), S1, ?_, b2, b3, fun y hy => by cases hy; rfl⟩
        have go : z_R29 (d + 3) 999998 37 0 [some (.ref 22), some (.int (iI lo)), some (.int (iI hi)), some (.int (iI (nb T n s)))] [] S = some (.inl (some (.int (iI (nb T n s)))), S1) := by
          rw [zq_29_37, show nI 2 = iI 2 from rfl, b1, clv_v, zq_29_52]
        by_cases l1 : nb T n s < lo
        · rw [if_pos (by rw [iI_lt (by omega) (by omega) (by omega) (by omega)]; omega)]
          exact go
        · rw [if_neg (by rw [iI_lt (by omega) (by omega) (by omega) (by omega)]; omega), if_neg (by rw [iI_le (by omega) (by omega) (by omega) (by omega)]; omega)]
          exact go
    · obtain ⟨S1, b1, b2, b3⟩ := bad 1 (by omega)
      rw [if_neg (show ¬ iI (kd T n s) = nI 1 by rw [show nI 1 = iI 1 from rfl, iI_eq (by omega) (by omega) (by omega) (by omega)]; exact k1), if_neg k1, show nI 1 = iI 1 from rfl, b1, clv_v, zq_29_52]
      exact ⟨_, S1, rfl, b2, b3, fun y hy => by cases hy; rfl⟩
  | inr e =>
    obtain ⟨S1, b1, b2, b3⟩ := c_bad hq hn (k := 1) (by omega) h (d + 1)
    have h3 : S.1 23 3 = iI 0 := h.2.2.2.2.2.2.1
    rw [zx_29, h3, if_neg (by decide +kernel), show nI 1 = iI 1 from rfl, b1, clv_v, zq_29_52]
    exact ⟨_, S1, rfl, b2, b3, fun y hy => by cases hy⟩
theorem c_pwR (hq : q = 2 ∨ q = 12) (hn : n ≤ 700) {i : Nat} (hi : 1 ≤ i ∧ i < 17) {r : pR} (h : RC T n q r S) (d : Nat) : ∃ b S', z_ew (d + 4) 27 [.ref 22, .ref (1000 + i)] S = some (.inl (some (.int (bI b))), S') ∧ RC T n q (pB r (pW T n i)) S' ∧ frC q S S' ∧ (∀ y, r = .inl y → b = decide (wd T n y.1 = i)) ∧ ((∃ e, r = .inr e) → b = false) := by
  cases r with
  | inl x =>
    obtain ⟨s, c⟩ := x
    have hs : s ≤ n := h.1
    have hc : c.length ≤ s := h.2.1
    obtain ⟨S', b1, b2, b3⟩ := c_pw hq hn hs h.2.2 hi d
    refine ⟨_, S', b1, ?_, b3, fun y hy => by cases hy; rfl, fun ⟨e, he⟩ => by cases he⟩
    refine ⟨?_, ?_, b2⟩
    · show (if wd T n s = i then nx T n s else s) ≤ n
      split
      · exact (nx_r (T := T) (wd_lt (T := T) (n := n) (s := s) (by omega)).1).2
      · exact hs
    · show c.length ≤ (if wd T n s = i then nx T n s else s)
      split
      · have := (nx_r (T := T) (wd_lt (T := T) (n := n) (s := s) (by omega)).1).1
        omega
      · exact hc
  | inr e => exact ⟨false, S, c_pwF h hi (d + 3), h, frC.rf S, fun y hy => (by cases hy), fun _ => rfl⟩
theorem c_opt (hq : q = 2 ∨ q = 12) (hn : n ≤ 700) {i : Nat} (hi : 1 ≤ i ∧ i < 17) {lo hh : Int} (hlo : 0 ≤ lo) (hlh : lo ≤ hh) (hhi : hh ≤ 9999) {r : pR} (h : RC T n q r S) (d : Nat) : ∃ x5 S4, z_ew (d + 4) 27 [.ref 22, .ref (1000 + i)] S = some (.inl (some (.int x5)), S4) ∧ ((x5 = 0 ∧ RC T n q (pB r (pOp T n i lo hh)) S4 ∧ frC q S S4 ∧ ∀ y, r = .inl y → ovI T n i y.1 = 0) ∨ (x5 ≠ 0 ∧ ∃ x7 S6, z_ew (d + 4) 29 [.ref 22, .int (iI lo), .int (iI hh)] S4 = some (.inl (some (.int x7)), S6) ∧ RC T n q (pB r (pOp T n i lo hh)) S6 ∧ frC q S S6 ∧ ∀ y, r = .inl y → x7 = iI (ovI T n i y.1))) := by
  obtain ⟨b, S4, b1, b2, b3, b4, b5⟩ := c_pwR hq hn hi h d
  refine ⟨_, S4, b1, ?_⟩
  cases r with
  | inl x =>
    obtain ⟨s, c⟩ := x
    have hb := b4 _ rfl
    have hb : b = decide (wd T n s = i) := hb
    have b2 : RC T n q (pW T n i s c) S4 := b2
    rw [show pB (Sum.inl (s, c)) (pOp T n i lo hh) = pOp T n i lo hh s c from rfl]
    unfold pW at b2
    unfold pOp
    by_cases e : wd T n s = i
    · rw [if_pos e] at b2 ⊢
      obtain ⟨x7, S6, e1, e2, e3, e4⟩ := c_tn hq hn hlo hlh hhi b2 d
      rw [hb, decide_eq_true e]
      refine Or.inr ⟨by decide +kernel, x7, S6, e1, e2, b3.tr e3, fun y hy => ?_⟩
      cases hy
      rw [e4 _ rfl]
      unfold ovI
      rw [if_pos e]
    · rw [if_neg e] at b2 ⊢
      rw [hb, decide_eq_false e]
      refine Or.inl ⟨rfl, b2, b3, fun y hy => ?_⟩
      cases hy
      unfold ovI
      rw [if_neg e]
  | inr e =>
    rw [b5 ⟨e, rfl⟩]
    exact Or.inl ⟨rfl, b2, b3, fun y hy => by cases hy⟩
theorem RM.f {S' : z_St} {r : pR} (h : RM T n r S) (hf : ∀ a i, a = 82 ∨ (a = 70 ∧ (18 ≤ i ∧ i ≤ 27)) ∨ (a = 79 ∧ 700 ≤ i) → S'.1 a i = S.1 a i) : RM T n r S' := by
  have hx : txM T n S → txM T n S' := fun h => h.f (fun i => hf 82 i (by omega)) (hf 70 19 (by omega))
  have hk : ∀ s, tkM T n s S → tkM T n s S' := fun s ⟨k1, k2, k3, k4, k5⟩ => ⟨(hf 70 18 (by omega)).trans k1, (hf 70 20 (by omega)).trans k2, (hf 70 22 (by omega)).trans k3, (hf 70 23 (by omega)).trans k4, fun q => (hf 70 21 (by omega)).trans (k5 q)⟩
  cases r with
  | inl x =>
    obtain ⟨a1, a2, h0, h1, h2, h3, h4⟩ := h
    exact ⟨a1, a2, hx h0, hk _ h1, (hf 70 24 (by omega)).trans h2, (hf 70 27 (by omega)).trans h3, fun i hi => (hf 79 (700 + i) (by omega)).trans (h4 i hi)⟩
  | inr e =>
    obtain ⟨h0, h1, a1, a2, a3, a4, a5⟩ := h
    exact ⟨hx h0, hk _ h1, a1, a2, a3, (hf 70 24 (by omega)).trans a4, (hf 70 25 (by omega)).trans a5⟩
theorem m_tn (hn : n ≤ 700) {lo hi : Int} (hlo : 0 ≤ lo) (hlh : lo ≤ hi) (hhi : hi ≤ 9999) {r : pR} (h : RM T n r S) (d : Nat) : ∃ x S', z_ew (d + 3) 127 [.ref 70, .int (iI lo), .int (iI hi)] S = some (.inl (some (.int x)), S') ∧ RM T n (pB r (pNm T n lo hi)) S' ∧ frM S S' ∧ (∀ y, r = .inl y → ∀ z, pNm T n lo hi y.1 y.2 = .inl z → x = iI (nb T n y.1)) := by
  cases r with
  | inl x =>
    obtain ⟨s, c⟩ := x
    obtain ⟨x, S', b1, b2, b3, b4⟩ := m_nm hn hlo hhi hlh h.1 h.2.1 h.2.2 d
    exact ⟨x, S', b1, b2, b3, fun y hy => by cases hy; exact b4⟩
  | inr e => exact ⟨_, S, m_nmF (show Fm T n e.1 e.2 S from h) _ _ (d + 2), h, frM.rf S, fun y hy => by cases hy⟩
theorem m_pwR (hn : n ≤ 700) {i : Nat} (hi : 1 ≤ i ∧ i < 17) {r : pR} (h : RM T n r S) (d : Nat) : ∃ b S', z_ew (d + 3) 125 [.ref 70, .ref (1200 + i)] S = some (.inl (some (.int (bI b))), S') ∧ RM T n (pB r (pW T n i)) S' ∧ frM S S' ∧ (∀ y, r = .inl y → b = decide (wd T n y.1 = i)) ∧ ((∃ e, r = .inr e) → b = false) := by
  cases r with
  | inl x =>
    obtain ⟨s, c⟩ := x
    have hs : s ≤ n := h.1
    have hc : c.length ≤ s := h.2.1
    obtain ⟨S', b1, b2, b3⟩ := m_ps hn hs h.2.2 hi.1 hi.2 d
    refine ⟨_, S', b1, ?_, b3, fun y hy => by cases hy; rfl, fun ⟨e, he⟩ => by cases he⟩
    refine ⟨?_, ?_, b2⟩
    · show (if wd T n s = i then nx T n s else s) ≤ n
      split
      · exact (nx_r (T := T) (wd_lt (T := T) (n := n) (s := s) (by omega)).1).2
      · exact hs
    · show c.length ≤ (if wd T n s = i then nx T n s else s)
      split
      · have := (nx_r (T := T) (wd_lt (T := T) (n := n) (s := s) (by omega)).1).1
        omega
      · exact hc
  | inr e => exact ⟨false, S, m_psF hn (show Fm T n e.1 e.2 S from h) hi.1 hi.2 (d + 1), h, frM.rf S, fun y hy => (by cases hy), fun _ => rfl⟩
theorem m_opt (hn : n ≤ 700) {i : Nat} (hi : 1 ≤ i ∧ i < 17) {lo hh : Int} (hlo : 0 ≤ lo) (hlh : lo ≤ hh) (hhi : hh ≤ 9999) {r : pR} (h : RM T n r S) (d : Nat) : ∃ x5 S4, z_ew (d + 3) 125 [.ref 70, .ref (1200 + i)] S = some (.inl (some (.int x5)), S4) ∧ ((x5 = 0 ∧ RM T n (pB r (pOp T n i lo hh)) S4 ∧ frM S S4 ∧ ∀ y, r = .inl y → ovI T n i y.1 = 0) ∨ (x5 ≠ 0 ∧ ∃ x7 S6, z_ew (d + 3) 127 [.ref 70, .int (iI lo), .int (iI hh)] S4 = some (.inl (some (.int x7)), S6) ∧ RM T n (pB r (pOp T n i lo hh)) S6 ∧ frM S S6 ∧ ∀ y, r = .inl y → ∀ z, pOp T n i lo hh y.1 y.2 = .inl z → x7 = iI (ovI T n i y.1))) := by
  obtain ⟨b, S4, b1, b2, b3, b4, b5⟩ := m_pwR hn hi h d
  refine ⟨_, S4, b1, ?_⟩
  cases r with
  | inl x =>
    obtain ⟨s, c⟩ := x
    have hb : b = decide (wd T n s = i) := b4 _ rfl
    have b2 : RM T n (pW T n i s c) S4 := b2
    rw [show pB (Sum.inl (s, c)) (pOp T n i lo hh) = pOp T n i lo hh s c from rfl]
    unfold pW at b2
    by_cases e : wd T n s = i
    · rw [if_pos e] at b2
      obtain ⟨x7, S6, e1, e2, e3, e4⟩ := m_tn hn hlo hlh hhi b2 d
      have hp : pOp T n i lo hh s c = pNm T n lo hh (nx T n s) c := by
        unfold pOp
        rw [if_pos e]
      rw [hb, decide_eq_true e]
      refine Or.inr ⟨by decide +kernel, x7, S6, e1, by rw [hp]; exact e2, b3.tr e3, fun y hy z hz => ?_⟩
      cases hy
      rw [e4 _ rfl z (by rw [← hp]; exact hz)]
      unfold ovI
      rw [if_pos e]
    · rw [if_neg e] at b2
      have hp : pOp T n i lo hh s c = .inl (s, c) := by
        unfold pOp
        rw [if_neg e]
      rw [hb, decide_eq_false e, hp]
      refine Or.inl ⟨rfl, b2, b3, fun y hy => ?_⟩
      cases hy
      unfold ovI
      rw [if_neg e]
  | inr e =>
    rw [b5 ⟨e, rfl⟩]
    exact Or.inl ⟨rfl, b2, b3, fun y hy => by cases hy⟩
end CZ
