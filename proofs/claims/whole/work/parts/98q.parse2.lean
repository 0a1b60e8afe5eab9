/-! a law's text: what a good one gives -/
def hg : List Int → Nat → Option Nat
  | [], h => some h
  | v :: w, h => if -20 < v then (if h < 60 then hg w (h + 1) else none) else if v = -28 then (if 1 ≤ h then hg w h else none) else if 2 ≤ h then hg w (h - 1) else none
theorem hg_c {v : Int} {w : List Int} {h : Nat} : hg (v :: w) h = if -20 < v then (if h < 60 then hg w (h + 1) else none) else if v = -28 then (if 1 ≤ h then hg w h else none) else if 2 ≤ h then hg w (h - 1) else none := rfl
theorem hg_app : ∀ (a b : List Int) (h k : Nat), hg a h = some k → hg (a ++ b) h = hg b k
  | [], b, h, k, e => by cases e; rfl
  | v :: a, b, h, k, e => by
    rw [List.cons_append, hg_c]
    rw [hg_c] at e
    by_cases c1 : -20 < v
    · rw [if_pos c1] at e ⊢
      by_cases c2 : h < 60
      · rw [if_pos c2] at e ⊢
        exact hg_app a b _ k e
      · rw [if_neg c2] at e
        cases e
    · rw [if_neg c1] at e ⊢
      by_cases c2 : v = -28
      · rw [if_pos c2] at e ⊢
        by_cases c3 : 1 ≤ h
        · rw [if_pos c3] at e ⊢
          exact hg_app a b _ k e
        · rw [if_neg c3] at e
          cases e
      · rw [if_neg c2] at e ⊢
        by_cases c3 : 2 ≤ h
        · rw [if_pos c3] at e ⊢
          exact hg_app a b _ k e
        · rw [if_neg c3] at e
          cases e
theorem cdh_hg {c : Nat → Int} : ∀ (w : List Int) (f h : Nat), (∀ i (hi : i < w.length), c (f + i) = w[i]) → cdh c f w.length h = hg w h
  | [], f, h, e => rfl
  | v :: w, f, h, e => by
    have e0 : c f = v := e 0 (Nat.succ_pos _)
    have es : ∀ i (hi : i < w.length), c (f + 1 + i) = w[i] := fun i hi => by
      have := e (i + 1) (Nat.succ_lt_succ hi)
      rw [Nat.add_assoc, Nat.add_comm 1 i]
      exact this
    show cdh c f (w.length + 1) h = hg (v :: w) h
    unfold cdh hg
    rw [e0, cdh_hg w (f + 1) (h + 1) es, cdh_hg w (f + 1) h es, cdh_hg w (f + 1) (h - 1) es]
theorem hg_not : ∀ (k h : Nat), 1 ≤ h → hg (List.replicate k (-28)) h = some h
  | 0, h, _ => rfl
  | k + 1, h, e => by
    show hg (-28 :: List.replicate k (-28)) h = _
    unfold hg
    rw [if_neg (by decide), if_pos rfl, if_pos e]
    exact hg_not k h e
theorem hg_one {v : Int} {h : Nat} (hv : -20 < v) (hh : h < 60) : hg [v] h = some (h + 1) := by
  unfold hg
  rw [if_pos hv, if_pos hh]
  rfl
theorem hg_op {v : Int} {h : Nat} (hv : v ≤ -20) (hv2 : v ≠ -28) : hg [v] (h + 2) = some (h + 1) := by
  unfold hg
  rw [if_neg (by omega), if_neg hv2, if_pos (by omega)]
  rfl
/-- what a piece of code is good for -/
def pG (n f s : Nat) (c : List Int) (r : pR) : Prop := ∀ s' c', r = .inl (s', c') → s < s' ∧ s' ≤ n ∧ ∃ w : List Int, c' = c ++ w ∧ w.length ≤ s' - s ∧ (∀ v, v ∈ w → cok v) ∧ ∀ h, h + f ≤ 60 → hg w h = some (h + 1)
theorem opC_r {T : Nat → Int} {n s : Nat} : -28 < opC T n s ∧ opC T n s ≤ -20 := by
  unfold opC
  repeat' split
  all_goals omega
theorem nb_0 {T : Nat → Int} {n s : Nat} (h : ∀ k, k < n → 0 ≤ T k ∧ T k ≤ 255) : 0 ≤ nb T n s ∧ nb T n s ≤ 10000 := by
  unfold nb
  have key : ∀ k (s : Nat) v, 0 ≤ v → v ≤ 10000 → s + k ≤ n → 0 ≤ cvF 10000 T k s v ∧ cvF 10000 T k s v ≤ 10000 := by
    intro k
    induction k with
    | zero => intro s v h1 h2 _; exact ⟨h1, h2⟩
    | succ k ih =>
      intro s v h1 h2 h3
      rw [cvF_s]
      split
      · rename_i hd
        have hT := h s (by omega)
        have hd2 : 48 ≤ T s ∧ T s ≤ 57 := of_decide_eq_true hd
        refine ih (s + 1) _ ?_ ?_ (by omega) <;> (unfold mnI; split <;> omega)
      · exact ⟨h1, h2⟩
  split
  · omega
  · split
    · omega
    · split
      · split
        · exact key (n - s) s 0 (by omega) (by omega) (by omega)
        · omega
      · omega
theorem pB_inl {r : pR} {g : Nat → List Int → pR} {s' : Nat} {c' : List Int} (h : pB r g = .inl (s', c')) : ∃ s c, r = .inl (s, c) ∧ g s c = .inl (s', c') := by
  cases r with
  | inl x => exact ⟨x.1, x.2, rfl, h⟩
  | inr e => cases h
section GOOD
variable {T : Nat → Int} {n : Nat}
theorem pPt_g (hT : ∀ k, k < n → 0 ≤ T k ∧ T k ≤ 255) {f s : Nat} {c : List Int} (hf : 1 ≤ f) : pG n f s c (pPt T n s c) := by
  intro s' c' h
  unfold pPt at h
  have hb := nb_0 (s := s) hT
  by_cases k1 : kd T n s = 1
  · rw [if_pos k1] at h
    by_cases c2 : 9999 < nb T n s
    · rw [if_pos c2] at h; cases h
    · rw [if_neg c2] at h
      cases h
      have h1 := nx_r (T := T) (kd_lt (T := T) (n := n) (s := s) (by omega))
      refine ⟨h1.1, h1.2, [nb T n s], rfl, by show 1 ≤ _; omega, fun v hv => ?_, fun h hh => hg_one (by omega) (by omega)⟩
      rw [List.mem_singleton] at hv
      rw [hv]
      exact ⟨by omega, by omega, by omega⟩
  · rw [if_neg k1] at h
    by_cases k2 : kd T n s = 2
    · rw [if_pos k2] at h
      by_cases c2 : wvI (wd T n s) = -1
      · rw [if_pos c2] at h; cases h
      · rw [if_neg c2] at h
        cases h
        have h1 := nx_r (T := T) (kd_lt (T := T) (n := n) (s := s) (by omega))
        have hw : 0 ≤ wvI (wd T n s) ∧ wvI (wd T n s) ≤ 6 := by
          have h17 : wd T n s ≤ 17 := by
            unfold wd
            split
            · omega
            · split
              · exact fdF_l 17 0
              · omega
          unfold wvI at c2 ⊢
          repeat' split
          all_goals (try split at c2)
          all_goals omega
        refine ⟨h1.1, h1.2, [-1 - wvI (wd T n s)], rfl, by show 1 ≤ _; omega, fun v hv => ?_, fun h hh => hg_one (by omega) (by omega)⟩
        rw [List.mem_singleton] at hv
        rw [hv]
        exact ⟨by omega, by omega, by omega⟩
    · rw [if_neg k2] at h; cases h
theorem pLp_g {o : Nat → List Int → pR} {lev f : Nat} (hlev : (lev : Int) ≤ 4) (ho : ∀ s c, s ≤ n → pG n f s c (o s c)) : ∀ (m s s' : Nat) (c c' : List Int), s ≤ n → pLp T n o lev m s c = .inl (s', c') → s ≤ s' ∧ s' ≤ n ∧ ∃ w : List Int, c' = c ++ w ∧ w.length ≤ s' - s ∧ (∀ v, v ∈ w → cok v) ∧ ∀ h, h + f + 1 ≤ 60 → hg w (h + 1) = some (h + 1)
  | 0, s, s', c, c', hs, e => by
    cases e
    exact ⟨Nat.le_refl _, hs, [], (List.append_nil _).symm, Nat.zero_le _, fun v hv => absurd hv (List.not_mem_nil), fun h _ => rfl⟩
  | m + 1, s, s', c, c', hs, e => by
    unfold pLp at e
    by_cases hj : jn T n s = lev
    · rw [if_pos hj] at e
      have hlt := jn_lt (T := T) (n := n) (s := s) (by omega)
      have h1 := nx_r (T := T) hlt
      obtain ⟨s1, c1, e1, e2⟩ := pB_inl e
      obtain ⟨a1, a2, w1, a3, a4, a5, a6⟩ := ho _ _ h1.2 s1 c1 e1
      obtain ⟨b1, b2, w2, b3, b4, b5, b6⟩ := pLp_g hlev ho m s1 s' _ c' a2 e2
      have hop := opC_r (T := T) (n := n) (s := s)
      refine ⟨by omega, b2, w1 ++ [opC T n s] ++ w2, by rw [b3, a3, List.append_assoc, List.append_assoc, List.append_assoc], ?_, ?_, ?_⟩
      · rw [List.length_append, List.length_append]
        show w1.length + 1 + w2.length ≤ _
        omega
      · intro v hv
        rw [List.mem_append, List.mem_append] at hv
        rcases hv with (hv | hv) | hv
        · exact a5 v hv
        · rw [List.mem_singleton] at hv
          rw [hv]
          exact ⟨by omega, by omega, by omega⟩
        · exact b5 v hv
      · intro h hh
        rw [hg_app (w1 ++ [opC T n s]) w2 (h + 1) (h + 1) (by rw [hg_app w1 [opC T n s] (h + 1) (h + 2) (a6 (h + 1) (by omega))]; exact hg_op (by omega) (by omega))]
        exact b6 h hh
    · rw [if_neg hj] at e
      cases e
      exact ⟨Nat.le_refl _, hs, [], (List.append_nil _).symm, Nat.zero_le _, fun v hv => absurd hv (List.not_mem_nil), fun h _ => rfl⟩
theorem pNt_g : ∀ (k s : Nat), s ≤ n → s + (pNt T n k s).1 ≤ (pNt T n k s).2 ∧ (pNt T n k s).2 ≤ n ∧ (pNt T n k s).1 ≤ k
  | 0, s, hs => ⟨Nat.le_refl _, hs, Nat.le_refl _⟩
  | k + 1, s, hs => by
    unfold pNt
    by_cases hw : wd T n s = 10
    · rw [if_pos hw]
      have h1 := nx_r (T := T) (wd_lt (T := T) (n := n) (s := s) (by omega)).1
      have h2 := pNt_g k (nx T n s) h1.2
      show s + ((pNt T n k (nx T n s)).1 + 1) ≤ (pNt T n k (nx T n s)).2 ∧ (pNt T n k (nx T n s)).2 ≤ n ∧ (pNt T n k (nx T n s)).1 + 1 ≤ k + 1
      omega
    · rw [if_neg hw]
      exact ⟨Nat.le_refl _, hs, Nat.zero_le _⟩
theorem pV_g {o : Nat → List Int → pR} {f : Nat} (ho : ∀ s c, s ≤ n → pG n f s c (o s c)) (lev s : Nat) (c : List Int) (hlev : lev ≤ 4) (hs : s ≤ n) : pG n (f + 1) s c (pV T n o lev s c) := by
  intro s' c' h
  unfold pV at h
  have lp : ∀ lev : Nat, lev ≤ 4 → ∀ (m s s' : Nat) (c c' : List Int), s ≤ n → pB (o s c) (fun s' c' => pLp T n o lev m s' c') = .inl (s', c') → s < s' ∧ s' ≤ n ∧ ∃ w : List Int, c' = c ++ w ∧ w.length ≤ s' - s ∧ (∀ v, v ∈ w → cok v) ∧ ∀ h, h + (f + 1) ≤ 60 → hg w h = some (h + 1) := by
    intro lev hl m s s' c c' hs e
    obtain ⟨s1, c1, e1, e2⟩ := pB_inl e
    obtain ⟨a1, a2, w1, a3, a4, a5, a6⟩ := ho _ _ hs s1 c1 e1
    obtain ⟨b1, b2, w2, b3, b4, b5, b6⟩ := pLp_g (T := T) (by omega) ho m s1 s' c1 c' a2 e2
    refine ⟨by omega, b2, w1 ++ w2, by rw [b3, a3, List.append_assoc], by rw [List.length_append]; omega, ?_, ?_⟩
    · intro v hv
      rw [List.mem_append] at hv
      exact hv.elim (a5 v) (b5 v)
    · intro h hh
      rw [hg_app w1 w2 h (h + 1) (a6 h (by omega))]
      exact b6 h (by omega)
  by_cases h2 : lev = 2
  · rw [if_pos h2] at h
    by_cases hw : wd T n (pNt T n 6 s).2 = 10
    · rw [if_pos hw] at h; cases h
    · rw [if_neg hw] at h
      have hn := pNt_g (T := T) 6 s hs
      obtain ⟨s1, c1, e1, e2⟩ := pB_inl h
      obtain ⟨s2, c2, e3, e4⟩ := pB_inl e2
      obtain ⟨a1, a2, w, a3, a4, a5, a6⟩ := lp 2 (by omega) 1 _ s2 c c2 hn.2.1 (by rw [e1]; exact e3)
      cases e4
      refine ⟨by omega, a2, w ++ List.replicate (pNt T n 6 s).1 (-28), by rw [a3, List.append_assoc], by rw [List.length_append, List.length_replicate]; omega, ?_, ?_⟩
      · intro v hv
        rw [List.mem_append] at hv
        rcases hv with hv | hv
        · exact a5 v hv
        · rw [(List.mem_replicate.1 hv).2]
          exact ⟨by omega, by omega, by omega⟩
      · intro h hh
        rw [hg_app w _ h (h + 1) (a6 h hh)]
        exact hg_not _ _ (by omega)
  · rw [if_neg h2] at h
    exact lp lev hlev 700 s s' c c' hs h
theorem pO_g (hT : ∀ k, k < n → 0 ≤ T k ∧ T k ≤ 255) {g : Nat → Nat → Nat → List Int → pR} {f : Nat} (hf : 1 ≤ f) (hg : ∀ lev ar s c, lev ≤ 4 → s ≤ n → pG n f s c (g lev ar s c)) (lev ar s : Nat) (c : List Int) (hs : s ≤ n) : pG n f s c (pO T n g lev ar s c) := by
  intro s' c' h
  unfold pO at h
  by_cases h4 : lev < 4
  · rw [if_pos h4] at h
    exact hg _ _ s c (by omega) hs s' c' h
  · rw [if_neg h4] at h
    by_cases k4 : kd T n s = 40
    · rw [if_pos k4] at h
      have hlt := kd_lt (T := T) (n := n) (s := s) (by omega)
      have h1 := nx_r (T := T) hlt
      by_cases ha : ar < 5
      · rw [if_pos ha] at h
        obtain ⟨s1, c1, e1, e2⟩ := pB_inl h
        obtain ⟨a1, a2, w1, a3, a4, a5, a6⟩ := hg _ _ _ _ (by omega) h1.2 s1 c1 e1
        by_cases k41 : kd T n s1 = 41
        · rw [if_pos k41] at e2
          cases e2
          have h2 := nx_r (T := T) (kd_lt (T := T) (n := n) (s := s1) (by omega))
          exact ⟨by omega, h2.2, w1, a3, by omega, a5, a6⟩
        · rw [if_neg k41] at e2
          cases e2
      · rw [if_neg ha] at h
        split at h <;> cases h
    · rw [if_neg k4] at h
      exact pPt_g hT hf s' c' h
theorem pL_g (hT : ∀ k, k < n → 0 ≤ T k ∧ T k ≤ 255) : ∀ (f lev ar s : Nat) (c : List Int), lev ≤ 4 → s ≤ n → pG n (f + 1) s c (pL T n f lev ar s c)
  | 0, lev, ar, s, c, _, _ => by
    intro s' c' h
    cases h
  | f + 1, lev, ar, s, c, hl, hs => by
    rw [pL_s]
    exact pV_g (fun s c hs => pO_g hT (by omega) (pL_g hT f) lev ar s c hs) lev s c hl hs
end GOOD
