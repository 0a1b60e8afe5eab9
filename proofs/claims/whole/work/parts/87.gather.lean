/-! looks and loans gathered: the class -/
def rv (A : aS) (b : Nat) : Nat → List Nat
  | 0 => []
  | l + 1 => if A 32 l = b then insR (A 33) l (rv A b l) else rv A b l
theorem rv_s {A : aS} {b l : Nat} : rv A b (l + 1) = if A 32 l = b then insR (A 33) l (rv A b l) else rv A b l := rfl
theorem rv_len (A : aS) (b : Nat) : ∀ l, (rv A b l).length = lct A b l
  | 0 => rfl
  | l + 1 => by
    have ih := rv_len A b l
    have e : lct A b (l + 1) = lct A b l + (if decide (A 32 l = (b : Int)) = true then 1 else 0) := fb_ct_succ _ l
    rw [rv_s, e]
    by_cases h : A 32 l = b
    · rw [if_pos h, insR_len, ih, if_pos (by simpa using h)]
    · rw [if_neg h, ih, if_neg (by simpa using h)]
      rfl
theorem rv_mem {A : aS} {b y : Nat} : ∀ {l}, y ∈ rv A b l → y < l ∧ A 32 y = b
  | 0, h => by cases h
  | l + 1, h => by
    rw [rv_s] at h
    by_cases e : A 32 l = b
    · rw [if_pos e, insR_mem] at h
      rcases h with h | h
      · subst h
        exact ⟨by omega, e⟩
      · have := rv_mem h
        exact ⟨by omega, this.2⟩
    · rw [if_neg e] at h
      have := rv_mem h
      exact ⟨by omega, this.2⟩
theorem stk_get {f : Nat → Int32} {M : Nat → Int32} : ∀ (l : List Nat), stk M (l.map f) → ∀ j, j < l.length → M j = f (l.reverse.getD j 0)
  | [], _, j, hj => absurd hj (Nat.not_lt_zero j)
  | x :: t, h, j, hj => by
    have h : M (t.map f).length = f x ∧ stk M (t.map f) := h
    have hj : j < t.length + 1 := hj
    rw [List.length_map] at h
    rw [List.reverse_cons, List.getD_eq_getElem?_getD]
    by_cases e : j = t.length
    · subst e
      rw [List.getElem?_append_right (by rw [List.length_reverse]; omega), List.length_reverse, Nat.sub_self]
      exact h.1
    · rw [List.getElem?_append_left (by rw [List.length_reverse]; omega), ← List.getD_eq_getElem?_getD]
      exact stk_get t h.2 j (by omega)
def Gr (A : aS) (p : Nat) (rev : List Nat) (S : z_St) : Prop := S.1 55 0 = iI (p : Int) ∧ S.1 55 1 = iI (rev.length : Int) ∧ stk (S.1 56) (rev.map f0) ∧ stk (S.1 57) (rev.map (f1 A)) ∧ stk (S.1 58) (rev.map (f2 A)) ∧ stk (S.1 59) (rev.map (f3 A))
section GAT
variable {p : Nat} {A : aS} {S : z_St}
theorem CI.f4 {S' : z_St} (h : CI p A S) (hf : fr4 S S') : CI p A S' := h.sc (fun a ha i => hf.1 a i (by omega)) hf.2
theorem c_enter {rev : List Nat} {l : Nat} (hC : CI p A S) (hw : wf A) (hl : (l : Int) < A 6 0) (hG : Gr A p rev S) (hlen : rev.length < 6) (hm : ∀ y, y ∈ rev → 0 ≤ A 33 y ∧ A 33 y ≤ 8759) (d : Nat) : ∃ S', z_ew (d + 2) 48 [.ref 55, .ref 24, .int (iI (l : Int))] S = some (.inl none, S') ∧ Gr A p (insR (A 33) l rev) S' ∧ fr4 S S' := by
  have hk := hw.k
  obtain ⟨a1, a2, a3, a4, a5, a6⟩ := hG
  have lm : ∀ f : Nat → Int32, (rev.map f).length = rev.length := fun f => by rw [List.length_map]
  obtain ⟨S', g1, g2, g3, g4, g5, g6, g7⟩ := c_in (A := A) (l := l) (by omega) (hw.lr hl).2.1 d 0 rev [] 999998 S (S.1 56 rev.length) (S.1 57 rev.length) (S.1 58 rev.length) (S.1 59 rev.length) (by simpa using hlen) (by omega) hm (fun w hw4 => c_lk hC hl hw4) ⟨⟨by rw [lm], a3⟩, ⟨by rw [lm], a4⟩, ⟨by rw [lm], a5⟩, ⟨by rw [lm], a6⟩⟩
  refine ⟨S', ?_, ⟨?_, ?_, g2, g3, g4, g5⟩, g7⟩
  · rw [zx_48, a2, iI_n 6, if_pos (by rw [iI_lt (by omega) (by omega) (by decide) (by decide)]; omega), zq_48_10, a2]
    exact g1
  · rw [g7.1 55 0 (by omega)]; exact a1
  · rw [g6, a2, insR_len, iI_n, iI_add]
    congr 1
theorem c_g1 {b N : Nat} (hw : wf A) (hb : b < 10) (hN : A 6 0 = N) (d z : Nat) : ∀ (k l n : Nat) (S : z_St) (x1 x5 : Option Value), l + k = N → 2 * k + 1 ≤ n → CI p A S → Gr A p (rv A b l) S → ∃ S' m' x1', n ≤ m' + 2 * k + 1 ∧ z_R42 (d + 2) n 13 z [some (.ref 55), x1, some (.ref 24), some (.int (iI (b : Int))), some (.int (iI (l : Int))), x5] [] S = z_R42 (d + 2) m' 45 z [some (.ref 55), x1', some (.ref 24), some (.int (iI (b : Int))), some (.int (iI (N : Int))), none] [] S' ∧ Gr A p (rv A b N) S' ∧ fr4 S S' := by
  have hk := hw.k
  intro k
  induction k with
  | zero =>
    intro l n S x1 x5 hl hn hC hG
    obtain ⟨n, rfl⟩ : ∃ m, n = m + 1 := ⟨n - 1, by omega⟩
    have e : l = N := by omega
    subst e
    refine ⟨S, n, none, by omega, ?_, hG, fun _ _ _ => rfl, rfl⟩
    rw [zq_42_13, c_6 hC, hN, if_pos (by rw [iI_le (by omega) (by omega) (by omega) (by omega)]; omega)]
  | succ k ih =>
    intro l n S x1 x5 hl hn hC hG
    obtain ⟨n, rfl⟩ : ∃ m, n = m + 2 := ⟨n - 2, by omega⟩
    have e2 : (l : Int) + ((1 : Nat) : Int) = ((l + 1 : Nat) : Int) := by omega
    have hr := hw.lr (i := l) (by omega)
    have hb2 := hw.b
    rw [zq_42_13, c_6 hC, hN, if_neg (by rw [iI_le (by omega) (by omega) (by omega) (by omega)]; omega), c_lB hC hw (by omega), cli_i]
    by_cases q : A 32 l = b
    · have hlen : (rv A b l).length < 6 := by
        rw [rv_len]
        have h1 : lct A b (l + 1) ≤ lct A b (A 6 0).toNat := fb_ct_mono _ (by omega)
        have h2 := hw.lc b
        have h3 : lct A b (l + 1) = lct A b l + 1 := by
          show fb_ct _ (l + 1) = _
          rw [fb_ct_succ]
          simp [q, lct]
        omega
      obtain ⟨S1, g1, g2, g3⟩ := c_enter hC hw (l := l) (by omega) hG hlen (fun y hy => (hw.lr (i := y) (by have := (rv_mem hy).1; omega)).2.1) d
      have g2' : Gr A p (rv A b (l + 1)) S1 := by rw [rv_s, if_pos q]; exact g2
      obtain ⟨S2, m2, y1, g4, g5, g6, g7⟩ := ih (l + 1) n S1 none none (by omega) (by omega) (hC.f4 g3) g2'
      refine ⟨S2, m2, y1, by omega, ?_, g6, g3.tr g7⟩
      rw [if_pos (by rw [q]), g1, clv_v, zq_42_39, iI_n 1, iI_add, e2]
      exact g5
    · have g2' : Gr A p (rv A b (l + 1)) S := by rw [rv_s, if_neg q]; exact hG
      obtain ⟨S2, m2, y1, g4, g5, g6, g7⟩ := ih (l + 1) n S none none (by omega) (by omega) hC g2'
      refine ⟨S2, m2, y1, by omega, ?_, g6, g7⟩
      rw [if_neg (by rw [iI_eq (by omega) (by omega) (by omega) (by omega)]; exact q), zq_42_39, iI_n 1, iI_add, e2]
      exact g5
/-- hours and loans ahead of an hour -/
def lhP (A : aS) (b r : Nat) (t : Int) : Nat → Int
  | 0 => 0
  | i + 1 => lhP A b r t i + (if A 26 i = r ∧ A 27 i = b ∧ A 28 i < t then mnI (A 29 i) (t - A 28 i) else 0)
def bgP (A : aS) (b r : Nat) (t : Int) : Nat → Int
  | 0 => 0
  | i + 1 => bgP A b r t i + (if A 26 i = r ∧ A 27 i = b ∧ A 28 i < t then 1 else 0)
def fr2 (S S' : z_St) : Prop := (∀ a i, a ≠ 60 → a ≠ 61 → S'.1 a i = S.1 a i) ∧ S'.2 = S.2
theorem fr2.tr {S S1 S2 : z_St} (h : fr2 S S1) (h2 : fr2 S1 S2) : fr2 S S2 := ⟨fun a i q q2 => (h2.1 a i q q2).trans (h.1 a i q q2), h2.2.trans h.2⟩
theorem CI.f2 {S' : z_St} (h : CI p A S) (hf : fr2 S S') : CI p A S' := h.sc (fun a ha i => hf.1 a i (by omega) (by omega)) hf.2
theorem Gr.f2 {rev : List Nat} {S' : z_St} (h : Gr A p rev S) (hf : fr2 S S') : Gr A p rev S' := by
  obtain ⟨a1, a2, a3, a4, a5, a6⟩ := h
  exact ⟨by rw [hf.1 55 0 (by decide) (by decide)]; exact a1, by rw [hf.1 55 1 (by decide) (by decide)]; exact a2, stk_up _ a3 (fun i _ => hf.1 56 i (by decide) (by decide)), stk_up _ a4 (fun i _ => hf.1 57 i (by decide) (by decide)), stk_up _ a5 (fun i _ => hf.1 58 i (by decide) (by decide)), stk_up _ a6 (fun i _ => hf.1 59 i (by decide) (by decide))⟩
def Qh (n : Nat) (S : z_St) (g h : Nat → Nat → Int) : Prop := ∀ r j, r < 8 → j < n → S.1 60 (r * 6 + j) = iI (g r j) ∧ S.1 61 (r * 6 + j) = iI (h r j)
def adG (hr : Nat → Int) (f u : Int) (r j : Nat) (g : Nat → Nat → Int) : Nat → Nat → Int := fun r' j' => if r' = r ∧ j' < j ∧ f < hr j' then g r' j' + mnI u (hr j' - f) else g r' j'
def adH (hr : Nat → Int) (f : Int) (r j : Nat) (g : Nat → Nat → Int) : Nat → Nat → Int := fun r' j' => if r' = r ∧ j' < j ∧ f < hr j' then g r' j' + 1 else g r' j'
theorem c_al {n r : Nat} {hr : Nat → Int} {f u : Int} (hn : n ≤ 6) (hr8 : r < 8) (hf : 0 ≤ f ∧ f ≤ 8760) (hu : 1 ≤ u ∧ u ≤ 24) (hh : ∀ j, j < n → 0 ≤ hr j ∧ hr j ≤ 8759) (d z : Nat) : ∀ (k j m : Nat) (S : z_St) (g h : Nat → Nat → Int) (x5 : Option Value), j + k = n → 2 * k + 2 ≤ m → S.1 55 1 = iI (n : Int) → (∀ j, j < n → S.1 57 j = iI (hr j)) → Qh n S (adG hr f u r j g) (adH hr f r j h) → ∃ S', z_R49 (d + 1) m 3 z [some (.ref 55), some (.int (iI (r : Int))), some (.int (iI f)), some (.int (iI u)), some (.int (iI (j : Int))), x5] [] S = some (.inl none, S') ∧ Qh n S' (adG hr f u r n g) (adH hr f r n h) ∧ fr2 S S' := by
  intro k
  induction k with
  | zero =>
    intro j m S g h x5 hj hm h1 h57 hQ
    obtain ⟨m, rfl⟩ : ∃ m', m = m' + 2 := ⟨m - 2, by omega⟩
    have e : j = n := by omega
    subst e
    refine ⟨S, ?_, hQ, fun _ _ _ _ => rfl, rfl⟩
    rw [zq_49_3, h1, if_pos (by rw [iI_le (by omega) (by omega) (by omega) (by omega)]; omega), zq_49_72]
  | succ k ih =>
    intro j m S g h x5 hj hm h1 h57 hQ
    obtain ⟨m, rfl⟩ : ∃ m', m = m' + 2 := ⟨m - 2, by omega⟩
    have e2 : (j : Int) + ((1 : Nat) : Int) = ((j + 1 : Nat) : Int) := by omega
    have e3 : iI (r : Int) * nI 6 + iI (j : Int) = iI ((r * 6 + j : Nat) : Int) := by
      rw [iI_n, iI_mul, iI_add]
      congr 1
    have hj2 := hh j (by omega)
    rw [zq_49_3, h1, if_neg (by rw [iI_le (by omega) (by omega) (by omega) (by omega)]; omega), ixN (by omega) (by decide), cond_true, tN (by omega), h57 j (by omega)]
    by_cases q : f < hr j
    · have hq := hQ r j hr8 (by omega)
      have eg : adG hr f u r j g r j = g r j := if_neg (by omega)
      have eh : adH hr f r j h r j = h r j := if_neg (by omega)
      rw [eg, eh] at hq
      have hm9 := mnI_or u (hr j - f)
      rw [if_neg (by rw [iI_le (by omega) (by omega) (by omega) (by omega)]; omega), e3, ixN (by omega) (by decide), cond_true, cond_true, iI_sub, zy_188 d _ _ S (by omega) (by omega) (by omega) (by omega), cli_i, cond_true, cond_true, cond_true, tN (by omega), hq.1, hq.2, iI_add, iI_n 1, iI_add, zq_49_66, iI_n 1, iI_add, e2]
      obtain ⟨S', g1, g2, g3⟩ := ih (j + 1) m (z_w1 (z_w1 S.1 60 (r * 6 + j) (iI (g r j + mnI u (hr j - f)))) 61 (r * 6 + j) (iI (h r j + ((1 : Nat) : Int))), S.2) g h none (by omega) (by omega) (by dsimp only; rw [z_w1_r, if_neg (by omega), z_w1_r, if_neg (by omega)]; exact h1) (fun j' hj' => by dsimp only; rw [z_w1_r, if_neg (by omega), z_w1_r, if_neg (by omega)]; exact h57 j' hj') (fun r' j' hr' hj' => by
        have hq2 := hQ r' j' hr' hj'
        have A1 : ∀ (v w : Int32), z_w1 (z_w1 S.1 60 (r * 6 + j) v) 61 (r * 6 + j) w 60 (r' * 6 + j') = if r' = r ∧ j' = j then v else S.1 60 (r' * 6 + j') := by
          intro v w
          rw [z_w1_r, if_neg (by omega), z_w1_r]
          by_cases e : r' = r ∧ j' = j
          · rw [if_pos e, if_pos (by omega)]
          · rw [if_neg e, if_neg (by omega)]
        have A2 : ∀ (v w : Int32), z_w1 (z_w1 S.1 60 (r * 6 + j) v) 61 (r * 6 + j) w 61 (r' * 6 + j') = if r' = r ∧ j' = j then w else S.1 61 (r' * 6 + j') := by
          intro v w
          rw [z_w1_r]
          by_cases e : r' = r ∧ j' = j
          · rw [if_pos e, if_pos (by omega)]
          · rw [if_neg e, if_neg (by omega), z_w1_r, if_neg (by omega)]
        dsimp only
        rw [A1, A2]
        by_cases e : r' = r ∧ j' = j
        · rw [if_pos e, if_pos e]
          obtain ⟨e8, e9⟩ := e
          subst e8
          subst e9
          have u1 : adG hr f u r' (j' + 1) g r' j' = g r' j' + mnI u (hr j' - f) := if_pos ⟨rfl, by omega, q⟩
          have u2 : adH hr f r' (j' + 1) h r' j' = h r' j' + 1 := if_pos ⟨rfl, by omega, q⟩
          rw [u1, u2]
          exact ⟨rfl, rfl⟩
        · rw [if_neg e, if_neg e]
          have u1 : adG hr f u r (j + 1) g r' j' = adG hr f u r j g r' j' := by
            unfold adG
            by_cases e4 : r' = r ∧ j' < j ∧ f < hr j'
            · rw [if_pos e4, if_pos ⟨e4.1, by omega, e4.2.2⟩]
            · rw [if_neg e4, if_neg (fun x => e4 ⟨x.1, by have := x.1; omega, x.2.2⟩)]
          have u2 : adH hr f r (j + 1) h r' j' = adH hr f r j h r' j' := by
            unfold adH
            by_cases e4 : r' = r ∧ j' < j ∧ f < hr j'
            · rw [if_pos e4, if_pos ⟨e4.1, by omega, e4.2.2⟩]
            · rw [if_neg e4, if_neg (fun x => e4 ⟨x.1, by have := x.1; omega, x.2.2⟩)]
          rw [u1, u2]
          exact hq2)
      refine ⟨S', g1, g2, fr2.tr (S1 := (z_w1 (z_w1 S.1 60 (r * 6 + j) (iI (g r j + mnI u (hr j - f)))) 61 (r * 6 + j) (iI (h r j + ((1 : Nat) : Int))), S.2)) ⟨fun a i h2 h3 => ?_, rfl⟩ g3⟩
      dsimp only
      rw [z_w1_r, if_neg (by omega), z_w1_r, if_neg (by omega)]
    · rw [if_pos (by rw [iI_le (by omega) (by omega) (by omega) (by omega)]; omega), zq_49_66, iI_n 1, iI_add, e2]
      refine ih (j + 1) m S g h none (by omega) (by omega) h1 h57 (fun r' j' hr' hj' => ?_)
      have hq2 := hQ r' j' hr' hj'
      unfold adG adH at hq2 ⊢
      by_cases e4 : r' = r ∧ j' < j ∧ f < hr j'
      · rw [if_pos e4, if_pos e4] at hq2
        rw [if_pos (by omega), if_pos (by omega)]
        exact hq2
      · rw [if_neg e4, if_neg e4] at hq2
        have e5 : ¬ (r' = r ∧ j' < j + 1 ∧ f < hr j') := by
          rintro ⟨u1, u2, u3⟩
          by_cases e6 : j' = j
          · subst e6; exact q u3
          · exact e4 ⟨u1, by omega, u3⟩
        rw [if_neg e5, if_neg e5]
        exact hq2
theorem c_g2 {b N n : Nat} {rev : List Nat} (hw : wf A) (hb : b < 10) (hN : A 4 0 = N) (hn : rev.length = n) (hn6 : n ≤ 6) (hh : ∀ j, j < n → 0 ≤ A 33 (rev.reverse.getD j 0) ∧ A 33 (rev.reverse.getD j 0) ≤ 8759) (d z : Nat) : ∀ (k i m : Nat) (S : z_St) (x1 x5 : Option Value), i + k = N → 2 * k + 1 ≤ m → CI p A S → Gr A p rev S → Qh n S (fun r j => lhP A b r (A 33 (rev.reverse.getD j 0)) i) (fun r j => bgP A b r (A 33 (rev.reverse.getD j 0)) i) → ∃ S' m', m ≤ m' + 2 * k + 1 ∧ z_R42 (d + 2) m 64 z [some (.ref 55), x1, some (.ref 24), some (.int (iI (b : Int))), some (.int (iI (i : Int))), x5] [] S = z_R42 (d + 2) m' 128 z [some (.ref 55), none, some (.ref 24), some (.int (iI (b : Int))), some (.int (iI (N : Int))), none] [] S' ∧ Qh n S' (fun r j => lhP A b r (A 33 (rev.reverse.getD j 0)) N) (fun r j => bgP A b r (A 33 (rev.reverse.getD j 0)) N) ∧ fr2 S S' := by
  have hl := hw.l
  have hb2 := hw.b
  have hr2 := hw.r
  intro k
  induction k with
  | zero =>
    intro i m S x1 x5 hi hm hC hG hQ
    obtain ⟨m, rfl⟩ : ∃ m', m = m' + 1 := ⟨m - 1, by omega⟩
    have e : i = N := by omega
    subst e
    refine ⟨S, m, by omega, ?_, hQ, fun _ _ _ _ => rfl, rfl⟩
    rw [zq_42_64, c_4 hC, hN, if_pos (by rw [iI_le (by omega) (by omega) (by omega) (by omega)]; omega)]
  | succ k ih =>
    intro i m S x1 x5 hi hm hC hG hQ
    obtain ⟨m, rfl⟩ : ∃ m', m = m' + 2 := ⟨m - 2, by omega⟩
    have e2 : (i : Int) + ((1 : Nat) : Int) = ((i + 1 : Nat) : Int) := by omega
    have ei : (i : Int) < A 4 0 := by omega
    have hrow := hw.L.2.2.2.2.2.2.2.2.2.1 i ei
    have e6 : iI (i : Int) * nI 6 = iI ((i * 6 : Nat) : Int) := by rw [iI_n, iI_mul]; congr 1
    have e6k : ∀ w : Nat, iI ((i * 6 : Nat) : Int) + nI w = iI ((i * 6 + w : Nat) : Int) := fun w => by rw [iI_n, iI_add]; congr 1
    have c0 : S.1 25 (i * 6) = iI (A 26 i) := by have := c_26 hC ei; rwa [show 6 * i + 0 = i * 6 by omega] at this
    have c1 : S.1 25 (i * 6 + 1) = iI (A 27 i) := by have := c_27 hC ei; rwa [show 6 * i + 1 = i * 6 + 1 by omega] at this
    have c2 : S.1 25 (i * 6 + 2) = iI (A 28 i) := by have := c_28 hC ei; rwa [show 6 * i + 2 = i * 6 + 2 by omega] at this
    have c3 : S.1 25 (i * 6 + 3) = iI (A 29 i) := by have := c_29 hC ei; rwa [show 6 * i + 3 = i * 6 + 3 by omega] at this
    rw [zq_42_64, c_4 hC, hN, if_neg (by rw [iI_le (by omega) (by omega) (by omega) (by omega)]; omega), e6, e6k, e6k, e6k, ixN (by omega) (by decide), cond_true, tN (by omega), c1]
    by_cases q : A 27 i = b
    · obtain ⟨r, hr⟩ : ∃ r : Nat, A 26 i = r := ⟨(A 26 i).toNat, by omega⟩
      obtain ⟨S1, g1, g2, g3⟩ := c_al (n := n) (r := r) (hr := fun j => A 33 (rev.reverse.getD j 0)) (f := A 28 i) (u := A 29 i) hn6 (by omega) (by omega) (by omega) hh d 0 n 0 999999 S (fun r j => lhP A b r (A 33 (rev.reverse.getD j 0)) i) (fun r j => bgP A b r (A 33 (rev.reverse.getD j 0)) i) none (by omega) (by omega) (by rw [hG.2.1, hn]) (fun j hj => stk_get rev hG.2.2.2.1 j (by omega)) (fun r' j' hr' hj' => by
        have := hQ r' j' hr' hj'
        unfold adG adH
        rw [if_neg (by omega), if_neg (by omega)]
        exact this)
      have g2' : Qh n S1 (fun r j => lhP A b r (A 33 (rev.reverse.getD j 0)) (i + 1)) (fun r j => bgP A b r (A 33 (rev.reverse.getD j 0)) (i + 1)) := by
        intro r' j' hr' hj'
        have h5 := g2 r' j' hr' hj'
        unfold adG adH at h5
        show S1.1 60 (r' * 6 + j') = iI (lhP A b r' (A 33 (rev.reverse.getD j' 0)) i + (if A 26 i = r' ∧ A 27 i = b ∧ A 28 i < A 33 (rev.reverse.getD j' 0) then mnI (A 29 i) (A 33 (rev.reverse.getD j' 0) - A 28 i) else 0)) ∧ S1.1 61 (r' * 6 + j') = iI (bgP A b r' (A 33 (rev.reverse.getD j' 0)) i + (if A 26 i = r' ∧ A 27 i = b ∧ A 28 i < A 33 (rev.reverse.getD j' 0) then 1 else 0))
        by_cases e : r' = r ∧ A 28 i < A 33 (rev.reverse.getD j' 0)
        · rw [if_pos ⟨e.1, hj', e.2⟩, if_pos ⟨e.1, hj', e.2⟩] at h5
          rw [if_pos ⟨by rw [hr, e.1], q, e.2⟩, if_pos ⟨by rw [hr, e.1], q, e.2⟩]
          exact h5
        · rw [if_neg (fun u => e ⟨u.1, u.2.2⟩), if_neg (fun u => e ⟨u.1, u.2.2⟩)] at h5
          rw [if_neg (fun u => e ⟨by have := u.1; omega, u.2.2⟩), if_neg (fun u => e ⟨by have := u.1; omega, u.2.2⟩), Int.add_zero, Int.add_zero]
          exact h5
      obtain ⟨S2, m2, g4, g5, g6, g7⟩ := ih (i + 1) m S1 none none (by omega) (by omega) (hC.f2 g3) (hG.f2 g3) g2'
      refine ⟨S2, m2, by omega, ?_, g6, g3.tr g7⟩
      have g1' : z_ew (d + 2) 49 [.ref 55, .int (iI (r : Int)), .int (iI (A 28 i)), .int (iI (A 29 i))] S = some (.inl none, S1) := by
        rw [zx_49]
        exact g1
      rw [if_pos (by rw [q]), ixN (by omega) (by decide), cond_true, ixN (by omega) (by decide), cond_true, ixN (by omega) (by decide), cond_true, tN (by omega), tN (by omega), tN (by omega), c0, c2, c3, hr, g1', clv_v, zq_42_122, iI_n 1, iI_add, e2]
      exact g5
    · have g2' : Qh n S (fun r j => lhP A b r (A 33 (rev.reverse.getD j 0)) (i + 1)) (fun r j => bgP A b r (A 33 (rev.reverse.getD j 0)) (i + 1)) := by
        intro r' j' hr' hj'
        show S.1 60 (r' * 6 + j') = iI (lhP A b r' (A 33 (rev.reverse.getD j' 0)) i + (if A 26 i = r' ∧ A 27 i = b ∧ A 28 i < A 33 (rev.reverse.getD j' 0) then mnI (A 29 i) (A 33 (rev.reverse.getD j' 0) - A 28 i) else 0)) ∧ S.1 61 (r' * 6 + j') = iI (bgP A b r' (A 33 (rev.reverse.getD j' 0)) i + (if A 26 i = r' ∧ A 27 i = b ∧ A 28 i < A 33 (rev.reverse.getD j' 0) then 1 else 0))
        rw [if_neg (fun u => q u.2.1), if_neg (fun u => q u.2.1), Int.add_zero, Int.add_zero]
        exact hQ r' j' hr' hj'
      obtain ⟨S2, m2, g4, g5, g6, g7⟩ := ih (i + 1) m S none none (by omega) (by omega) hC hG g2'
      refine ⟨S2, m2, by omega, ?_, g6, g7⟩
      rw [if_neg (by rw [iI_eq (by omega) (by omega) (by omega) (by omega)]; exact q), zq_42_122, iI_n 1, iI_add, e2]
      exact g5
end GAT
