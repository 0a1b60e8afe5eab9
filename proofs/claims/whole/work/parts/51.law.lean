/-! the law's loop, case by case -/
abbrev Lo (l4 : Int32) : z_Lo := [some (.ref 1300), some (.ref 0), some (.ref 70), some (.ref 116), some (.int l4), none, none]
def lS (n : Nat) (xs : Nat → Int32) (S : z_St) : Prop := (∀ j, j < n → S.1 1300 j = xs j) ∧ S.1 1301 0 = nI n
theorem lS.f {n : Nat} {xs : Nat → Int32} {S S' : z_St} (h : lS n xs S) (hf : z_fr S S') : lS n xs S' := ⟨fun j hj => by rw [hf 1300 (by decide)]; exact h.1 j hj, by rw [hf 1301 (by decide)]; exact h.2⟩
theorem lS.ix {n i k : Nat} {xs : Nat → Int32} {S : z_St} (h : lS n xs S) (hi : i + 6 ≤ n) (hn : n ≤ 384) (hk : k < 6) : z_ix (nI i + nI k) (S.1 1301 0).toNatClampNeg = true := by
  rw [h.2, nI_add, nI_clamp (by omega), iI_n]
  exact iI_ixt (by omega) (by omega) (by omega)
theorem lS.rd {n i k : Nat} {xs : Nat → Int32} {S : z_St} (h : lS n xs S) (hi : i + 6 ≤ n) (hn : n ≤ 384) (hk : k < 6) : S.1 1300 ((nI i + nI k).toNatClampNeg) = xs (i + k) := by
  rw [nI_add, nI_clamp (by omega)]
  exact h.1 _ (by omega)
def AI (S : z_St) : Prop := ∃ p A, CI p A S ∧ MI A S ∧ wf A
def OpW (w m : Nat) (as : List Value) : Prop := ∀ S, AI S → ∃ (c y : Int32) (S1 S2 : z_St), z_ew 1000 w (.ref 0 :: (as ++ [.ref 116])) S = some (.inl (some (.int c)), S1) ∧ z_ew 1000 m (.ref 70 :: as) S1 = some (.inl (some (.int y)), S2) ∧ S2.1 70 1 = c ∧ (c = 0 → S2.2 116 0 = y.toInt64) ∧ AI S2
def OpB (w m : Nat) (as : List Value) : Prop := ∀ S, AI S → ∃ (c y : Int32) (S1 S2 : z_St), z_ew 1000 w (.ref 0 :: (as ++ [.ref 116])) S = some (.inl (some (.int c)), S1) ∧ z_ew 1000 m (.ref 70 :: as) S1 = some (.inl (some (.int y)), S2) ∧ S2.1 70 1 = c ∧ (c = 0 → S2.2 116 0 = if y = 0 then lN 0 else lN 1) ∧ AI S2
theorem lg_self (x : Int64) : lg_cmp x x = 0 := by
  unfold lg_cmp
  rw [if_neg (by rw [GT.gt, fa_lt64]; omega), if_pos rfl]
theorem blt_t {z k : Nat} (h : z < k) : Nat.blt z k = true := Nat.blt_eq.mpr h
theorem ix_0 : z_ix (nI 0) 1 = true := by decide +kernel
theorem w_191 {d : Nat} {l1 x : Int32} {S S1 : z_St} (h : z_ew d 75 [.ref 0, .int l1] S = some (.inl (some (.int x)), S1)) : z_ew (d + 1) 191 [.ref 0, .int l1, .ref 116] S = some (.inl (some (.int (nI 0))), (S1.1, z_w2 S1.2 116 0 x.toInt64)) := by rw [zx_191, h, cli_i, zq_191_15]
theorem w_191x {d : Nat} {l1 : Int32} {S S1 : z_St} (h : z_ew d 75 [.ref 0, .int l1] S = some (.inr 1, S1)) : z_ew (d + 1) 191 [.ref 0, .int l1, .ref 116] S = some (.inl (some (.int 1)), S1) := by
  rw [zx_191, h]
  rfl
theorem lc_1 {n i z : Nat} {xs : Nat → Int32} {S : z_St} (h : OpW 191 137 [.int (xs (i + 1))]) (hS : lS n xs S) (hA : AI S) (hi : i + 6 ≤ n) (hn : n ≤ 384) (hz : z < 100000) : ∃ S1, lS n xs S1 ∧ AI S1 ∧ ∃ c, c ≤ 8 ∧ ∀ f, z_R211 1000 (f + c) 229 z (Lo (nI i)) [] S = z_R211 1000 f 23 (z + 1) (Lo (nI (i + 6))) [] S1 := by
  obtain ⟨c, y, S1, S2, e1, e2, e3, e4, e5⟩ := h S hA
  change z_ew 1000 191 [.ref 0, .int (xs (i + 1)), .ref 116] S = some (.inl (some (.int c)), S1) at e1
  have f1 : lS n xs S1 := hS.f (z_fr_ew 1000 191 _ _ _ _ (by decide) e1)
  have f2 : lS n xs S2 := f1.f (z_fr_ew 1000 137 _ _ _ _ (by decide) e2)
  refine ⟨S2, f2, e5, 4, by decide, fun f => ?_⟩
  have g : z_R211 1000 (f + 3) 265 (z + 1) [some (.ref 1300), some (.ref 0), some (.ref 70), some (.ref 116), some (.int (nI i)), some (.int c), some (.int y)] [] S2 = z_R211 1000 f 23 (z + 1) (Lo (nI (i + 6))) [] S2 := by
    rw [zq_211_265]
    by_cases q : c = 0
    · rw [if_pos q, e4 q, lg_self, if_pos rfl, zq_211_282, zq_211_1725, nI_add]
    · rw [if_neg q, zq_211_282, zq_211_1725, nI_add]
  rw [zq_211_229, hS.ix (k := 1) hi hn (by decide), cond_true, hS.rd (k := 1) hi hn (by decide), blt_t hz, cond_true, e1, cli_i, f1.ix (k := 1) hi hn (by decide), cond_true, f1.rd (k := 1) hi hn (by decide), e2, cli_i, zx_110 999, cli_i, if_pos e3]
  exact g
theorem w_192 {d : Nat} {l1 x : Int32} {S S1 : z_St} (h : z_ew d 77 [.ref 0, .int l1] S = some (.inl (some (.int x)), S1)) : z_ew (d + 1) 192 [.ref 0, .int l1, .ref 116] S = some (.inl (some (.int (nI 0))), (S1.1, z_w2 S1.2 116 0 x.toInt64)) := by rw [zx_192, h, cli_i, zq_192_15]
theorem w_192x {d : Nat} {l1 : Int32} {S S1 : z_St} (h : z_ew d 77 [.ref 0, .int l1] S = some (.inr 0, S1)) : z_ew (d + 1) 192 [.ref 0, .int l1, .ref 116] S = some (.inl (some (.int 1)), S1) := by
  rw [zx_192, h]
  rfl
theorem lc_3 {n i z : Nat} {xs : Nat → Int32} {S : z_St} (h : OpW 192 140 [.int (xs (i + 1))]) (hS : lS n xs S) (hA : AI S) (hi : i + 6 ≤ n) (hn : n ≤ 384) (hz : z < 100000) : ∃ S1, lS n xs S1 ∧ AI S1 ∧ ∃ c, c ≤ 8 ∧ ∀ f, z_R211 1000 (f + c) 298 z (Lo (nI i)) [] S = z_R211 1000 f 23 (z + 1) (Lo (nI (i + 6))) [] S1 := by
  obtain ⟨c, y, S1, S2, e1, e2, e3, e4, e5⟩ := h S hA
  change z_ew 1000 192 [.ref 0, .int (xs (i + 1)), .ref 116] S = some (.inl (some (.int c)), S1) at e1
  have f1 : lS n xs S1 := hS.f (z_fr_ew 1000 192 _ _ _ _ (by decide) e1)
  have f2 : lS n xs S2 := f1.f (z_fr_ew 1000 140 _ _ _ _ (by decide) e2)
  refine ⟨S2, f2, e5, 4, by decide, fun f => ?_⟩
  have g : z_R211 1000 (f + 3) 334 (z + 1) [some (.ref 1300), some (.ref 0), some (.ref 70), some (.ref 116), some (.int (nI i)), some (.int c), some (.int y)] [] S2 = z_R211 1000 f 23 (z + 1) (Lo (nI (i + 6))) [] S2 := by
    rw [zq_211_334]
    by_cases q : c = 0
    · rw [if_pos q, e4 q, lg_self, if_pos rfl, zq_211_351, zq_211_1725, nI_add]
    · rw [if_neg q, zq_211_351, zq_211_1725, nI_add]
  rw [zq_211_298, hS.ix (k := 1) hi hn (by decide), cond_true, hS.rd (k := 1) hi hn (by decide), blt_t hz, cond_true, e1, cli_i, f1.ix (k := 1) hi hn (by decide), cond_true, f1.rd (k := 1) hi hn (by decide), e2, cli_i, zx_110 999, cli_i, if_pos e3]
  exact g
theorem w_193 {d : Nat} {l1 l2 x : Int32} {S S1 : z_St} (h : z_ew d 78 [.ref 0, .int l1, .int l2] S = some (.inl (some (.int x)), S1)) : z_ew (d + 1) 193 [.ref 0, .int l1, .int l2, .ref 116] S = some (.inl (some (.int (nI 0))), (S1.1, z_w2 S1.2 116 0 x.toInt64)) := by rw [zx_193, h, cli_i, zq_193_17]
theorem w_193x {d : Nat} {l1 l2 : Int32} {S S1 : z_St} (h : z_ew d 78 [.ref 0, .int l1, .int l2] S = some (.inr 0, S1)) : z_ew (d + 1) 193 [.ref 0, .int l1, .int l2, .ref 116] S = some (.inl (some (.int 1)), S1) := by
  rw [zx_193, h]
  rfl
theorem lc_4 {n i z : Nat} {xs : Nat → Int32} {S : z_St} (h : OpW 193 145 [.int (xs (i + 1)), .int (xs (i + 2))]) (hS : lS n xs S) (hA : AI S) (hi : i + 6 ≤ n) (hn : n ≤ 384) (hz : z < 100000) : ∃ S1, lS n xs S1 ∧ AI S1 ∧ ∃ c, c ≤ 8 ∧ ∀ f, z_R211 1000 (f + c) 354 z (Lo (nI i)) [] S = z_R211 1000 f 23 (z + 1) (Lo (nI (i + 6))) [] S1 := by
  obtain ⟨c, y, S1, S2, e1, e2, e3, e4, e5⟩ := h S hA
  change z_ew 1000 193 [.ref 0, .int (xs (i + 1)), .int (xs (i + 2)), .ref 116] S = some (.inl (some (.int c)), S1) at e1
  have f1 : lS n xs S1 := hS.f (z_fr_ew 1000 193 _ _ _ _ (by decide) e1)
  have f2 : lS n xs S2 := f1.f (z_fr_ew 1000 145 _ _ _ _ (by decide) e2)
  refine ⟨S2, f2, e5, 4, by decide, fun f => ?_⟩
  have g : z_R211 1000 (f + 3) 402 (z + 1) [some (.ref 1300), some (.ref 0), some (.ref 70), some (.ref 116), some (.int (nI i)), some (.int c), some (.int y)] [] S2 = z_R211 1000 f 23 (z + 1) (Lo (nI (i + 6))) [] S2 := by
    rw [zq_211_402]
    by_cases q : c = 0
    · rw [if_pos q, e4 q, lg_self, if_pos rfl, zq_211_419, zq_211_1725, nI_add]
    · rw [if_neg q, zq_211_419, zq_211_1725, nI_add]
  rw [zq_211_354, hS.ix (k := 1) hi hn (by decide), cond_true, hS.ix (k := 2) hi hn (by decide), cond_true, hS.rd (k := 1) hi hn (by decide), hS.rd (k := 2) hi hn (by decide), blt_t hz, cond_true, e1, cli_i, f1.ix (k := 1) hi hn (by decide), cond_true, f1.ix (k := 2) hi hn (by decide), cond_true, f1.rd (k := 1) hi hn (by decide), f1.rd (k := 2) hi hn (by decide), e2, cli_i, zx_110 999, cli_i, if_pos e3]
  exact g
theorem w_194 {d : Nat} {l1 l2 x : Int32} {S S1 : z_St} (h : z_ew d 79 [.ref 0, .int l1, .int l2] S = some (.inl (some (.int x)), S1)) : z_ew (d + 1) 194 [.ref 0, .int l1, .int l2, .ref 116] S = some (.inl (some (.int (nI 0))), (S1.1, z_w2 S1.2 116 0 x.toInt64)) := by rw [zx_194, h, cli_i, zq_194_17]
theorem w_194x {d : Nat} {l1 l2 : Int32} {S S1 : z_St} (h : z_ew d 79 [.ref 0, .int l1, .int l2] S = some (.inr 0, S1)) : z_ew (d + 1) 194 [.ref 0, .int l1, .int l2, .ref 116] S = some (.inl (some (.int 1)), S1) := by
  rw [zx_194, h]
  rfl
theorem lc_5 {n i z : Nat} {xs : Nat → Int32} {S : z_St} (h : OpW 194 146 [.int (xs (i + 1)), .int (xs (i + 2))]) (hS : lS n xs S) (hA : AI S) (hi : i + 6 ≤ n) (hn : n ≤ 384) (hz : z < 100000) : ∃ S1, lS n xs S1 ∧ AI S1 ∧ ∃ c, c ≤ 8 ∧ ∀ f, z_R211 1000 (f + c) 422 z (Lo (nI i)) [] S = z_R211 1000 f 23 (z + 1) (Lo (nI (i + 6))) [] S1 := by
  obtain ⟨c, y, S1, S2, e1, e2, e3, e4, e5⟩ := h S hA
  change z_ew 1000 194 [.ref 0, .int (xs (i + 1)), .int (xs (i + 2)), .ref 116] S = some (.inl (some (.int c)), S1) at e1
  have f1 : lS n xs S1 := hS.f (z_fr_ew 1000 194 _ _ _ _ (by decide) e1)
  have f2 : lS n xs S2 := f1.f (z_fr_ew 1000 146 _ _ _ _ (by decide) e2)
  refine ⟨S2, f2, e5, 4, by decide, fun f => ?_⟩
  have g : z_R211 1000 (f + 3) 470 (z + 1) [some (.ref 1300), some (.ref 0), some (.ref 70), some (.ref 116), some (.int (nI i)), some (.int c), some (.int y)] [] S2 = z_R211 1000 f 23 (z + 1) (Lo (nI (i + 6))) [] S2 := by
    rw [zq_211_470]
    by_cases q : c = 0
    · rw [if_pos q, e4 q, lg_self, if_pos rfl, zq_211_487, zq_211_1725, nI_add]
    · rw [if_neg q, zq_211_487, zq_211_1725, nI_add]
  rw [zq_211_422, hS.ix (k := 1) hi hn (by decide), cond_true, hS.ix (k := 2) hi hn (by decide), cond_true, hS.rd (k := 1) hi hn (by decide), hS.rd (k := 2) hi hn (by decide), blt_t hz, cond_true, e1, cli_i, f1.ix (k := 1) hi hn (by decide), cond_true, f1.ix (k := 2) hi hn (by decide), cond_true, f1.rd (k := 1) hi hn (by decide), f1.rd (k := 2) hi hn (by decide), e2, cli_i, zx_110 999, cli_i, if_pos e3]
  exact g
theorem w_195 {d : Nat} {l1 l2 l3 l4 x : Int32} {S S1 : z_St} (h : z_ew d 80 [.ref 0, .int l1, .int l2, .int l3, .int l4] S = some (.inl (some (.int x)), S1)) : z_ew (d + 1) 195 [.ref 0, .int l1, .int l2, .int l3, .int l4, .ref 116] S = some (.inl (some (.int (nI 0))), (S1.1, z_w2 S1.2 116 0 x.toInt64)) := by rw [zx_195, h, cli_i, zq_195_21]
theorem w_195x {d : Nat} {l1 l2 l3 l4 : Int32} {S S1 : z_St} (h : z_ew d 80 [.ref 0, .int l1, .int l2, .int l3, .int l4] S = some (.inr 0, S1)) : z_ew (d + 1) 195 [.ref 0, .int l1, .int l2, .int l3, .int l4, .ref 116] S = some (.inl (some (.int 1)), S1) := by
  rw [zx_195, h]
  rfl
theorem lc_6 {n i z : Nat} {xs : Nat → Int32} {S : z_St} (h : OpW 195 152 [.int (xs (i + 1)), .int (xs (i + 2)), .int (xs (i + 3)), .int (xs (i + 4))]) (hS : lS n xs S) (hA : AI S) (hi : i + 6 ≤ n) (hn : n ≤ 384) (hz : z < 100000) : ∃ S1, lS n xs S1 ∧ AI S1 ∧ ∃ c, c ≤ 8 ∧ ∀ f, z_R211 1000 (f + c) 490 z (Lo (nI i)) [] S = z_R211 1000 f 23 (z + 1) (Lo (nI (i + 6))) [] S1 := by
  obtain ⟨c, y, S1, S2, e1, e2, e3, e4, e5⟩ := h S hA
  change z_ew 1000 195 [.ref 0, .int (xs (i + 1)), .int (xs (i + 2)), .int (xs (i + 3)), .int (xs (i + 4)), .ref 116] S = some (.inl (some (.int c)), S1) at e1
  have f1 : lS n xs S1 := hS.f (z_fr_ew 1000 195 _ _ _ _ (by decide) e1)
  have f2 : lS n xs S2 := f1.f (z_fr_ew 1000 152 _ _ _ _ (by decide) e2)
  refine ⟨S2, f2, e5, 4, by decide, fun f => ?_⟩
  have g : z_R211 1000 (f + 3) 562 (z + 1) [some (.ref 1300), some (.ref 0), some (.ref 70), some (.ref 116), some (.int (nI i)), some (.int c), some (.int y)] [] S2 = z_R211 1000 f 23 (z + 1) (Lo (nI (i + 6))) [] S2 := by
    rw [zq_211_562]
    by_cases q : c = 0
    · rw [if_pos q, e4 q, lg_self, if_pos rfl, zq_211_579, zq_211_1725, nI_add]
    · rw [if_neg q, zq_211_579, zq_211_1725, nI_add]
  rw [zq_211_490, hS.ix (k := 1) hi hn (by decide), cond_true, hS.ix (k := 2) hi hn (by decide), cond_true, hS.ix (k := 3) hi hn (by decide), cond_true, hS.ix (k := 4) hi hn (by decide), cond_true, hS.rd (k := 1) hi hn (by decide), hS.rd (k := 2) hi hn (by decide), hS.rd (k := 3) hi hn (by decide), hS.rd (k := 4) hi hn (by decide), blt_t hz, cond_true, e1, cli_i, f1.ix (k := 1) hi hn (by decide), cond_true, f1.ix (k := 2) hi hn (by decide), cond_true, f1.ix (k := 3) hi hn (by decide), cond_true, f1.ix (k := 4) hi hn (by decide), cond_true, f1.rd (k := 1) hi hn (by decide), f1.rd (k := 2) hi hn (by decide), f1.rd (k := 3) hi hn (by decide), f1.rd (k := 4) hi hn (by decide), e2, cli_i, zx_110 999, cli_i, if_pos e3]
  exact g
theorem w_196 {d : Nat} {l1 l2 x : Int32} {S S1 : z_St} (h : z_ew d 81 [.ref 0, .int l1, .int l2] S = some (.inl (some (.int x)), S1)) : z_ew (d + 1) 196 [.ref 0, .int l1, .int l2, .ref 116] S = some (.inl (some (.int (nI 0))), (S1.1, z_w2 S1.2 116 0 x.toInt64)) := by rw [zx_196, h, cli_i, zq_196_17]
theorem w_196x {d : Nat} {l1 l2 : Int32} {S S1 : z_St} (h : z_ew d 81 [.ref 0, .int l1, .int l2] S = some (.inr 0, S1)) : z_ew (d + 1) 196 [.ref 0, .int l1, .int l2, .ref 116] S = some (.inl (some (.int 1)), S1) := by
  rw [zx_196, h]
  rfl
theorem lc_7 {n i z : Nat} {xs : Nat → Int32} {S : z_St} (h : OpW 196 153 [.int (xs (i + 1)), .int (xs (i + 2))]) (hS : lS n xs S) (hA : AI S) (hi : i + 6 ≤ n) (hn : n ≤ 384) (hz : z < 100000) : ∃ S1, lS n xs S1 ∧ AI S1 ∧ ∃ c, c ≤ 8 ∧ ∀ f, z_R211 1000 (f + c) 582 z (Lo (nI i)) [] S = z_R211 1000 f 23 (z + 1) (Lo (nI (i + 6))) [] S1 := by
  obtain ⟨c, y, S1, S2, e1, e2, e3, e4, e5⟩ := h S hA
  change z_ew 1000 196 [.ref 0, .int (xs (i + 1)), .int (xs (i + 2)), .ref 116] S = some (.inl (some (.int c)), S1) at e1
  have f1 : lS n xs S1 := hS.f (z_fr_ew 1000 196 _ _ _ _ (by decide) e1)
  have f2 : lS n xs S2 := f1.f (z_fr_ew 1000 153 _ _ _ _ (by decide) e2)
  refine ⟨S2, f2, e5, 4, by decide, fun f => ?_⟩
  have g : z_R211 1000 (f + 3) 630 (z + 1) [some (.ref 1300), some (.ref 0), some (.ref 70), some (.ref 116), some (.int (nI i)), some (.int c), some (.int y)] [] S2 = z_R211 1000 f 23 (z + 1) (Lo (nI (i + 6))) [] S2 := by
    rw [zq_211_630]
    by_cases q : c = 0
    · rw [if_pos q, e4 q, lg_self, if_pos rfl, zq_211_647, zq_211_1725, nI_add]
    · rw [if_neg q, zq_211_647, zq_211_1725, nI_add]
  rw [zq_211_582, hS.ix (k := 1) hi hn (by decide), cond_true, hS.ix (k := 2) hi hn (by decide), cond_true, hS.rd (k := 1) hi hn (by decide), hS.rd (k := 2) hi hn (by decide), blt_t hz, cond_true, e1, cli_i, f1.ix (k := 1) hi hn (by decide), cond_true, f1.ix (k := 2) hi hn (by decide), cond_true, f1.rd (k := 1) hi hn (by decide), f1.rd (k := 2) hi hn (by decide), e2, cli_i, zx_110 999, cli_i, if_pos e3]
  exact g
theorem w_197 {d : Nat} {l1 l2 l3 x : Int32} {S S1 : z_St} (h : z_ew d 82 [.ref 0, .int l1, .int l2, .int l3] S = some (.inl (some (.int x)), S1)) : z_ew (d + 1) 197 [.ref 0, .int l1, .int l2, .int l3, .ref 116] S = some (.inl (some (.int (nI 0))), (S1.1, z_w2 S1.2 116 0 x.toInt64)) := by rw [zx_197, h, cli_i, zq_197_19]
theorem w_197x {d : Nat} {l1 l2 l3 : Int32} {S S1 : z_St} (h : z_ew d 82 [.ref 0, .int l1, .int l2, .int l3] S = some (.inr 0, S1)) : z_ew (d + 1) 197 [.ref 0, .int l1, .int l2, .int l3, .ref 116] S = some (.inl (some (.int 1)), S1) := by
  rw [zx_197, h]
  rfl
theorem lc_8 {n i z : Nat} {xs : Nat → Int32} {S : z_St} (h : OpW 197 154 [.int (xs (i + 1)), .int (xs (i + 2)), .int (xs (i + 3))]) (hS : lS n xs S) (hA : AI S) (hi : i + 6 ≤ n) (hn : n ≤ 384) (hz : z < 100000) : ∃ S1, lS n xs S1 ∧ AI S1 ∧ ∃ c, c ≤ 8 ∧ ∀ f, z_R211 1000 (f + c) 650 z (Lo (nI i)) [] S = z_R211 1000 f 23 (z + 1) (Lo (nI (i + 6))) [] S1 := by
  obtain ⟨c, y, S1, S2, e1, e2, e3, e4, e5⟩ := h S hA
  change z_ew 1000 197 [.ref 0, .int (xs (i + 1)), .int (xs (i + 2)), .int (xs (i + 3)), .ref 116] S = some (.inl (some (.int c)), S1) at e1
  have f1 : lS n xs S1 := hS.f (z_fr_ew 1000 197 _ _ _ _ (by decide) e1)
  have f2 : lS n xs S2 := f1.f (z_fr_ew 1000 154 _ _ _ _ (by decide) e2)
  refine ⟨S2, f2, e5, 4, by decide, fun f => ?_⟩
  have g : z_R211 1000 (f + 3) 710 (z + 1) [some (.ref 1300), some (.ref 0), some (.ref 70), some (.ref 116), some (.int (nI i)), some (.int c), some (.int y)] [] S2 = z_R211 1000 f 23 (z + 1) (Lo (nI (i + 6))) [] S2 := by
    rw [zq_211_710]
    by_cases q : c = 0
    · rw [if_pos q, e4 q, lg_self, if_pos rfl, zq_211_727, zq_211_1725, nI_add]
    · rw [if_neg q, zq_211_727, zq_211_1725, nI_add]
  rw [zq_211_650, hS.ix (k := 1) hi hn (by decide), cond_true, hS.ix (k := 2) hi hn (by decide), cond_true, hS.ix (k := 3) hi hn (by decide), cond_true, hS.rd (k := 1) hi hn (by decide), hS.rd (k := 2) hi hn (by decide), hS.rd (k := 3) hi hn (by decide), blt_t hz, cond_true, e1, cli_i, f1.ix (k := 1) hi hn (by decide), cond_true, f1.ix (k := 2) hi hn (by decide), cond_true, f1.ix (k := 3) hi hn (by decide), cond_true, f1.rd (k := 1) hi hn (by decide), f1.rd (k := 2) hi hn (by decide), f1.rd (k := 3) hi hn (by decide), e2, cli_i, zx_110 999, cli_i, if_pos e3]
  exact g
theorem w_198 {d : Nat} {l1 l2 x : Int32} {S S1 : z_St} (h : z_ew d 83 [.ref 0, .int l1, .int l2] S = some (.inl (some (.int x)), S1)) : z_ew (d + 1) 198 [.ref 0, .int l1, .int l2, .ref 116] S = some (.inl (some (.int (nI 0))), (S1.1, z_w2 S1.2 116 0 x.toInt64)) := by rw [zx_198, h, cli_i, zq_198_17]
theorem w_198x {d : Nat} {l1 l2 : Int32} {S S1 : z_St} (h : z_ew d 83 [.ref 0, .int l1, .int l2] S = some (.inr 0, S1)) : z_ew (d + 1) 198 [.ref 0, .int l1, .int l2, .ref 116] S = some (.inl (some (.int 1)), S1) := by
  rw [zx_198, h]
  rfl
theorem lc_9 {n i z : Nat} {xs : Nat → Int32} {S : z_St} (h : OpW 198 155 [.int (xs (i + 1)), .int (xs (i + 2))]) (hS : lS n xs S) (hA : AI S) (hi : i + 6 ≤ n) (hn : n ≤ 384) (hz : z < 100000) : ∃ S1, lS n xs S1 ∧ AI S1 ∧ ∃ c, c ≤ 8 ∧ ∀ f, z_R211 1000 (f + c) 730 z (Lo (nI i)) [] S = z_R211 1000 f 23 (z + 1) (Lo (nI (i + 6))) [] S1 := by
  obtain ⟨c, y, S1, S2, e1, e2, e3, e4, e5⟩ := h S hA
  change z_ew 1000 198 [.ref 0, .int (xs (i + 1)), .int (xs (i + 2)), .ref 116] S = some (.inl (some (.int c)), S1) at e1
  have f1 : lS n xs S1 := hS.f (z_fr_ew 1000 198 _ _ _ _ (by decide) e1)
  have f2 : lS n xs S2 := f1.f (z_fr_ew 1000 155 _ _ _ _ (by decide) e2)
  refine ⟨S2, f2, e5, 4, by decide, fun f => ?_⟩
  have g : z_R211 1000 (f + 3) 778 (z + 1) [some (.ref 1300), some (.ref 0), some (.ref 70), some (.ref 116), some (.int (nI i)), some (.int c), some (.int y)] [] S2 = z_R211 1000 f 23 (z + 1) (Lo (nI (i + 6))) [] S2 := by
    rw [zq_211_778]
    by_cases q : c = 0
    · rw [if_pos q, e4 q, lg_self, if_pos rfl, zq_211_795, zq_211_1725, nI_add]
    · rw [if_neg q, zq_211_795, zq_211_1725, nI_add]
  rw [zq_211_730, hS.ix (k := 1) hi hn (by decide), cond_true, hS.ix (k := 2) hi hn (by decide), cond_true, hS.rd (k := 1) hi hn (by decide), hS.rd (k := 2) hi hn (by decide), blt_t hz, cond_true, e1, cli_i, f1.ix (k := 1) hi hn (by decide), cond_true, f1.ix (k := 2) hi hn (by decide), cond_true, f1.rd (k := 1) hi hn (by decide), f1.rd (k := 2) hi hn (by decide), e2, cli_i, zx_110 999, cli_i, if_pos e3]
  exact g
theorem w_199 {d : Nat} {l1 l2 l3 x : Int32} {S S1 : z_St} (h : z_ew d 84 [.ref 0, .int l1, .int l2, .int l3] S = some (.inl (some (.int x)), S1)) : z_ew (d + 1) 199 [.ref 0, .int l1, .int l2, .int l3, .ref 116] S = some (.inl (some (.int (nI 0))), (S1.1, z_w2 S1.2 116 0 x.toInt64)) := by rw [zx_199, h, cli_i, zq_199_19]
theorem w_199x {d : Nat} {l1 l2 l3 : Int32} {S S1 : z_St} (h : z_ew d 84 [.ref 0, .int l1, .int l2, .int l3] S = some (.inr 0, S1)) : z_ew (d + 1) 199 [.ref 0, .int l1, .int l2, .int l3, .ref 116] S = some (.inl (some (.int 1)), S1) := by
  rw [zx_199, h]
  rfl
theorem lc_10 {n i z : Nat} {xs : Nat → Int32} {S : z_St} (h : OpW 199 157 [.int (xs (i + 1)), .int (xs (i + 2)), .int (xs (i + 3))]) (hS : lS n xs S) (hA : AI S) (hi : i + 6 ≤ n) (hn : n ≤ 384) (hz : z < 100000) : ∃ S1, lS n xs S1 ∧ AI S1 ∧ ∃ c, c ≤ 8 ∧ ∀ f, z_R211 1000 (f + c) 798 z (Lo (nI i)) [] S = z_R211 1000 f 23 (z + 1) (Lo (nI (i + 6))) [] S1 := by
  obtain ⟨c, y, S1, S2, e1, e2, e3, e4, e5⟩ := h S hA
  change z_ew 1000 199 [.ref 0, .int (xs (i + 1)), .int (xs (i + 2)), .int (xs (i + 3)), .ref 116] S = some (.inl (some (.int c)), S1) at e1
  have f1 : lS n xs S1 := hS.f (z_fr_ew 1000 199 _ _ _ _ (by decide) e1)
  have f2 : lS n xs S2 := f1.f (z_fr_ew 1000 157 _ _ _ _ (by decide) e2)
  refine ⟨S2, f2, e5, 4, by decide, fun f => ?_⟩
  have g : z_R211 1000 (f + 3) 858 (z + 1) [some (.ref 1300), some (.ref 0), some (.ref 70), some (.ref 116), some (.int (nI i)), some (.int c), some (.int y)] [] S2 = z_R211 1000 f 23 (z + 1) (Lo (nI (i + 6))) [] S2 := by
    rw [zq_211_858]
    by_cases q : c = 0
    · rw [if_pos q, e4 q, lg_self, if_pos rfl, zq_211_875, zq_211_1725, nI_add]
    · rw [if_neg q, zq_211_875, zq_211_1725, nI_add]
  rw [zq_211_798, hS.ix (k := 1) hi hn (by decide), cond_true, hS.ix (k := 2) hi hn (by decide), cond_true, hS.ix (k := 3) hi hn (by decide), cond_true, hS.rd (k := 1) hi hn (by decide), hS.rd (k := 2) hi hn (by decide), hS.rd (k := 3) hi hn (by decide), blt_t hz, cond_true, e1, cli_i, f1.ix (k := 1) hi hn (by decide), cond_true, f1.ix (k := 2) hi hn (by decide), cond_true, f1.ix (k := 3) hi hn (by decide), cond_true, f1.rd (k := 1) hi hn (by decide), f1.rd (k := 2) hi hn (by decide), f1.rd (k := 3) hi hn (by decide), e2, cli_i, zx_110 999, cli_i, if_pos e3]
  exact g
theorem w_200 {d : Nat} {l1 l2 l3 x : Int32} {S S1 : z_St} (h : z_ew d 85 [.ref 0, .int l1, .int l2, .int l3] S = some (.inl (some (.int x)), S1)) : z_ew (d + 1) 200 [.ref 0, .int l1, .int l2, .int l3, .ref 116] S = some (.inl (some (.int (nI 0))), (S1.1, z_w2 S1.2 116 0 (if x = 0 then lN 0 else lN 1))) := by
  rw [zx_200, h, cli_i]
  by_cases q : x = 0
  · rw [if_pos q, if_pos q, zq_200_17, zq_200_18, ix_0, cond_true, zq_200_26]
    rfl
  · rw [if_neg q, if_neg q, zq_200_18, ix_0, cond_true, zq_200_26]
    rfl
theorem w_200x {d : Nat} {l1 l2 l3 : Int32} {S S1 : z_St} (h : z_ew d 85 [.ref 0, .int l1, .int l2, .int l3] S = some (.inr 0, S1)) : z_ew (d + 1) 200 [.ref 0, .int l1, .int l2, .int l3, .ref 116] S = some (.inl (some (.int 1)), S1) := by
  rw [zx_200, h]
  rfl
theorem lc_11 {n i z : Nat} {xs : Nat → Int32} {S : z_St} (h : OpB 200 158 [.int (xs (i + 1)), .int (xs (i + 2)), .int (xs (i + 3))]) (hS : lS n xs S) (hA : AI S) (hi : i + 6 ≤ n) (hn : n ≤ 384) (hz : z < 100000) : ∃ S1, lS n xs S1 ∧ AI S1 ∧ ∃ c, c ≤ 8 ∧ ∀ f, z_R211 1000 (f + c) 878 z (Lo (nI i)) [] S = z_R211 1000 f 23 (z + 1) (Lo (nI (i + 6))) [] S1 := by
  obtain ⟨c, y, S1, S2, e1, e2, e3, e4, e5⟩ := h S hA
  change z_ew 1000 200 [.ref 0, .int (xs (i + 1)), .int (xs (i + 2)), .int (xs (i + 3)), .ref 116] S = some (.inl (some (.int c)), S1) at e1
  have f1 : lS n xs S1 := hS.f (z_fr_ew 1000 200 _ _ _ _ (by decide) e1)
  have f2 : lS n xs S2 := f1.f (z_fr_ew 1000 158 _ _ _ _ (by decide) e2)
  by_cases q : c = 0
  · by_cases q2 : y = 0
    · refine ⟨S2, f2, e5, 6, by decide, fun f => ?_⟩
      have e6 := e4 q
      rw [if_pos q2] at e6
      rw [zq_211_878, hS.ix (k := 1) hi hn (by decide), cond_true, hS.ix (k := 2) hi hn (by decide), cond_true, hS.ix (k := 3) hi hn (by decide), cond_true, hS.rd (k := 1) hi hn (by decide), hS.rd (k := 2) hi hn (by decide), hS.rd (k := 3) hi hn (by decide), blt_t hz, cond_true, e1, cli_i, f1.ix (k := 1) hi hn (by decide), cond_true, f1.ix (k := 2) hi hn (by decide), cond_true, f1.ix (k := 3) hi hn (by decide), cond_true, f1.rd (k := 1) hi hn (by decide), f1.rd (k := 2) hi hn (by decide), f1.rd (k := 3) hi hn (by decide), e2, cli_i, zx_110 999, cli_i, if_pos e3, zq_211_938, if_pos q, if_pos q2, zq_211_955, zq_211_956, e6, lg_self, if_pos rfl, zq_211_962, zq_211_1725, nI_add]
    · refine ⟨S2, f2, e5, 5, by decide, fun f => ?_⟩
      have e6 := e4 q
      rw [if_neg q2] at e6
      rw [zq_211_878, hS.ix (k := 1) hi hn (by decide), cond_true, hS.ix (k := 2) hi hn (by decide), cond_true, hS.ix (k := 3) hi hn (by decide), cond_true, hS.rd (k := 1) hi hn (by decide), hS.rd (k := 2) hi hn (by decide), hS.rd (k := 3) hi hn (by decide), blt_t hz, cond_true, e1, cli_i, f1.ix (k := 1) hi hn (by decide), cond_true, f1.ix (k := 2) hi hn (by decide), cond_true, f1.ix (k := 3) hi hn (by decide), cond_true, f1.rd (k := 1) hi hn (by decide), f1.rd (k := 2) hi hn (by decide), f1.rd (k := 3) hi hn (by decide), e2, cli_i, zx_110 999, cli_i, if_pos e3, zq_211_938, if_pos q, if_neg q2, zq_211_956, e6, lg_self, if_pos rfl, zq_211_962, zq_211_1725, nI_add]
  · refine ⟨S2, f2, e5, 4, by decide, fun f => ?_⟩
    rw [zq_211_878, hS.ix (k := 1) hi hn (by decide), cond_true, hS.ix (k := 2) hi hn (by decide), cond_true, hS.ix (k := 3) hi hn (by decide), cond_true, hS.rd (k := 1) hi hn (by decide), hS.rd (k := 2) hi hn (by decide), hS.rd (k := 3) hi hn (by decide), blt_t hz, cond_true, e1, cli_i, f1.ix (k := 1) hi hn (by decide), cond_true, f1.ix (k := 2) hi hn (by decide), cond_true, f1.ix (k := 3) hi hn (by decide), cond_true, f1.rd (k := 1) hi hn (by decide), f1.rd (k := 2) hi hn (by decide), f1.rd (k := 3) hi hn (by decide), e2, cli_i, zx_110 999, cli_i, if_pos e3, zq_211_938, if_neg q, zq_211_962, zq_211_1725, nI_add]
theorem w_201 {d : Nat} {l1 l2 l3 x : Int32} {S S1 : z_St} (h : z_ew d 86 [.ref 0, .int l1, .int l2, .int l3] S = some (.inl (some (.int x)), S1)) : z_ew (d + 1) 201 [.ref 0, .int l1, .int l2, .int l3, .ref 116] S = some (.inl (some (.int (nI 0))), (S1.1, z_w2 S1.2 116 0 x.toInt64)) := by rw [zx_201, h, cli_i, zq_201_19]
theorem w_201x {d : Nat} {l1 l2 l3 : Int32} {S S1 : z_St} (h : z_ew d 86 [.ref 0, .int l1, .int l2, .int l3] S = some (.inr 0, S1)) : z_ew (d + 1) 201 [.ref 0, .int l1, .int l2, .int l3, .ref 116] S = some (.inl (some (.int 1)), S1) := by
  rw [zx_201, h]
  rfl
theorem lc_12 {n i z : Nat} {xs : Nat → Int32} {S : z_St} (h : OpW 201 159 [.int (xs (i + 1)), .int (xs (i + 2)), .int (xs (i + 3))]) (hS : lS n xs S) (hA : AI S) (hi : i + 6 ≤ n) (hn : n ≤ 384) (hz : z < 100000) : ∃ S1, lS n xs S1 ∧ AI S1 ∧ ∃ c, c ≤ 8 ∧ ∀ f, z_R211 1000 (f + c) 965 z (Lo (nI i)) [] S = z_R211 1000 f 23 (z + 1) (Lo (nI (i + 6))) [] S1 := by
  obtain ⟨c, y, S1, S2, e1, e2, e3, e4, e5⟩ := h S hA
  change z_ew 1000 201 [.ref 0, .int (xs (i + 1)), .int (xs (i + 2)), .int (xs (i + 3)), .ref 116] S = some (.inl (some (.int c)), S1) at e1
  have f1 : lS n xs S1 := hS.f (z_fr_ew 1000 201 _ _ _ _ (by decide) e1)
  have f2 : lS n xs S2 := f1.f (z_fr_ew 1000 159 _ _ _ _ (by decide) e2)
  refine ⟨S2, f2, e5, 4, by decide, fun f => ?_⟩
  have g : z_R211 1000 (f + 3) 1025 (z + 1) [some (.ref 1300), some (.ref 0), some (.ref 70), some (.ref 116), some (.int (nI i)), some (.int c), some (.int y)] [] S2 = z_R211 1000 f 23 (z + 1) (Lo (nI (i + 6))) [] S2 := by
    rw [zq_211_1025]
    by_cases q : c = 0
    · rw [if_pos q, e4 q, lg_self, if_pos rfl, zq_211_1042, zq_211_1725, nI_add]
    · rw [if_neg q, zq_211_1042, zq_211_1725, nI_add]
  rw [zq_211_965, hS.ix (k := 1) hi hn (by decide), cond_true, hS.ix (k := 2) hi hn (by decide), cond_true, hS.ix (k := 3) hi hn (by decide), cond_true, hS.rd (k := 1) hi hn (by decide), hS.rd (k := 2) hi hn (by decide), hS.rd (k := 3) hi hn (by decide), blt_t hz, cond_true, e1, cli_i, f1.ix (k := 1) hi hn (by decide), cond_true, f1.ix (k := 2) hi hn (by decide), cond_true, f1.ix (k := 3) hi hn (by decide), cond_true, f1.rd (k := 1) hi hn (by decide), f1.rd (k := 2) hi hn (by decide), f1.rd (k := 3) hi hn (by decide), e2, cli_i, zx_110 999, cli_i, if_pos e3]
  exact g
theorem w_202 {d : Nat} {l1 l2 l3 l4 x : Int32} {S S1 : z_St} (h : z_ew d 87 [.ref 0, .int l1, .int l2, .int l3, .int l4] S = some (.inl (some (.int x)), S1)) : z_ew (d + 1) 202 [.ref 0, .int l1, .int l2, .int l3, .int l4, .ref 116] S = some (.inl (some (.int (nI 0))), (S1.1, z_w2 S1.2 116 0 x.toInt64)) := by rw [zx_202, h, cli_i, zq_202_21]
theorem w_202x {d : Nat} {l1 l2 l3 l4 : Int32} {S S1 : z_St} (h : z_ew d 87 [.ref 0, .int l1, .int l2, .int l3, .int l4] S = some (.inr 0, S1)) : z_ew (d + 1) 202 [.ref 0, .int l1, .int l2, .int l3, .int l4, .ref 116] S = some (.inl (some (.int 1)), S1) := by
  rw [zx_202, h]
  rfl
theorem lc_13 {n i z : Nat} {xs : Nat → Int32} {S : z_St} (h : OpW 202 161 [.int (xs (i + 1)), .int (xs (i + 2)), .int (xs (i + 3)), .int (xs (i + 4))]) (hS : lS n xs S) (hA : AI S) (hi : i + 6 ≤ n) (hn : n ≤ 384) (hz : z < 100000) : ∃ S1, lS n xs S1 ∧ AI S1 ∧ ∃ c, c ≤ 8 ∧ ∀ f, z_R211 1000 (f + c) 1045 z (Lo (nI i)) [] S = z_R211 1000 f 23 (z + 1) (Lo (nI (i + 6))) [] S1 := by
  obtain ⟨c, y, S1, S2, e1, e2, e3, e4, e5⟩ := h S hA
  change z_ew 1000 202 [.ref 0, .int (xs (i + 1)), .int (xs (i + 2)), .int (xs (i + 3)), .int (xs (i + 4)), .ref 116] S = some (.inl (some (.int c)), S1) at e1
  have f1 : lS n xs S1 := hS.f (z_fr_ew 1000 202 _ _ _ _ (by decide) e1)
  have f2 : lS n xs S2 := f1.f (z_fr_ew 1000 161 _ _ _ _ (by decide) e2)
  refine ⟨S2, f2, e5, 4, by decide, fun f => ?_⟩
  have g : z_R211 1000 (f + 3) 1117 (z + 1) [some (.ref 1300), some (.ref 0), some (.ref 70), some (.ref 116), some (.int (nI i)), some (.int c), some (.int y)] [] S2 = z_R211 1000 f 23 (z + 1) (Lo (nI (i + 6))) [] S2 := by
    rw [zq_211_1117]
    by_cases q : c = 0
    · rw [if_pos q, e4 q, lg_self, if_pos rfl, zq_211_1134, zq_211_1725, nI_add]
    · rw [if_neg q, zq_211_1134, zq_211_1725, nI_add]
  rw [zq_211_1045, hS.ix (k := 1) hi hn (by decide), cond_true, hS.ix (k := 2) hi hn (by decide), cond_true, hS.ix (k := 3) hi hn (by decide), cond_true, hS.ix (k := 4) hi hn (by decide), cond_true, hS.rd (k := 1) hi hn (by decide), hS.rd (k := 2) hi hn (by decide), hS.rd (k := 3) hi hn (by decide), hS.rd (k := 4) hi hn (by decide), blt_t hz, cond_true, e1, cli_i, f1.ix (k := 1) hi hn (by decide), cond_true, f1.ix (k := 2) hi hn (by decide), cond_true, f1.ix (k := 3) hi hn (by decide), cond_true, f1.ix (k := 4) hi hn (by decide), cond_true, f1.rd (k := 1) hi hn (by decide), f1.rd (k := 2) hi hn (by decide), f1.rd (k := 3) hi hn (by decide), f1.rd (k := 4) hi hn (by decide), e2, cli_i, zx_110 999, cli_i, if_pos e3]
  exact g
theorem w_203 {d : Nat} {l1 x : Int32} {S S1 : z_St} (h : z_ew d 88 [.ref 0, .int l1] S = some (.inl (some (.int x)), S1)) : z_ew (d + 1) 203 [.ref 0, .int l1, .ref 116] S = some (.inl (some (.int (nI 0))), (S1.1, z_w2 S1.2 116 0 x.toInt64)) := by rw [zx_203, h, cli_i, zq_203_15]
theorem w_203x {d : Nat} {l1 : Int32} {S S1 : z_St} (h : z_ew d 88 [.ref 0, .int l1] S = some (.inr 0, S1)) : z_ew (d + 1) 203 [.ref 0, .int l1, .ref 116] S = some (.inl (some (.int 1)), S1) := by
  rw [zx_203, h]
  rfl
theorem lc_14 {n i z : Nat} {xs : Nat → Int32} {S : z_St} (h : OpW 203 169 [.int (xs (i + 1))]) (hS : lS n xs S) (hA : AI S) (hi : i + 6 ≤ n) (hn : n ≤ 384) (hz : z < 100000) : ∃ S1, lS n xs S1 ∧ AI S1 ∧ ∃ c, c ≤ 8 ∧ ∀ f, z_R211 1000 (f + c) 1137 z (Lo (nI i)) [] S = z_R211 1000 f 23 (z + 1) (Lo (nI (i + 6))) [] S1 := by
  obtain ⟨c, y, S1, S2, e1, e2, e3, e4, e5⟩ := h S hA
  change z_ew 1000 203 [.ref 0, .int (xs (i + 1)), .ref 116] S = some (.inl (some (.int c)), S1) at e1
  have f1 : lS n xs S1 := hS.f (z_fr_ew 1000 203 _ _ _ _ (by decide) e1)
  have f2 : lS n xs S2 := f1.f (z_fr_ew 1000 169 _ _ _ _ (by decide) e2)
  refine ⟨S2, f2, e5, 4, by decide, fun f => ?_⟩
  have g : z_R211 1000 (f + 3) 1173 (z + 1) [some (.ref 1300), some (.ref 0), some (.ref 70), some (.ref 116), some (.int (nI i)), some (.int c), some (.int y)] [] S2 = z_R211 1000 f 23 (z + 1) (Lo (nI (i + 6))) [] S2 := by
    rw [zq_211_1173]
    by_cases q : c = 0
    · rw [if_pos q, e4 q, lg_self, if_pos rfl, zq_211_1190, zq_211_1725, nI_add]
    · rw [if_neg q, zq_211_1190, zq_211_1725, nI_add]
  rw [zq_211_1137, hS.ix (k := 1) hi hn (by decide), cond_true, hS.rd (k := 1) hi hn (by decide), blt_t hz, cond_true, e1, cli_i, f1.ix (k := 1) hi hn (by decide), cond_true, f1.rd (k := 1) hi hn (by decide), e2, cli_i, zx_110 999, cli_i, if_pos e3]
  exact g
theorem w_204 {d : Nat} {l1 l2 x : Int32} {S S1 : z_St} (h : z_ew d 89 [.ref 0, .int l1, .int l2] S = some (.inl (some (.int x)), S1)) : z_ew (d + 1) 204 [.ref 0, .int l1, .int l2, .ref 116] S = some (.inl (some (.int (nI 0))), (S1.1, z_w2 S1.2 116 0 x.toInt64)) := by rw [zx_204, h, cli_i, zq_204_17]
theorem w_204x {d : Nat} {l1 l2 : Int32} {S S1 : z_St} (h : z_ew d 89 [.ref 0, .int l1, .int l2] S = some (.inr 0, S1)) : z_ew (d + 1) 204 [.ref 0, .int l1, .int l2, .ref 116] S = some (.inl (some (.int 1)), S1) := by
  rw [zx_204, h]
  rfl
theorem lc_15 {n i z : Nat} {xs : Nat → Int32} {S : z_St} (h : OpW 204 170 [.int (xs (i + 1)), .int (xs (i + 2))]) (hS : lS n xs S) (hA : AI S) (hi : i + 6 ≤ n) (hn : n ≤ 384) (hz : z < 100000) : ∃ S1, lS n xs S1 ∧ AI S1 ∧ ∃ c, c ≤ 8 ∧ ∀ f, z_R211 1000 (f + c) 1193 z (Lo (nI i)) [] S = z_R211 1000 f 23 (z + 1) (Lo (nI (i + 6))) [] S1 := by
  obtain ⟨c, y, S1, S2, e1, e2, e3, e4, e5⟩ := h S hA
  change z_ew 1000 204 [.ref 0, .int (xs (i + 1)), .int (xs (i + 2)), .ref 116] S = some (.inl (some (.int c)), S1) at e1
  have f1 : lS n xs S1 := hS.f (z_fr_ew 1000 204 _ _ _ _ (by decide) e1)
  have f2 : lS n xs S2 := f1.f (z_fr_ew 1000 170 _ _ _ _ (by decide) e2)
  refine ⟨S2, f2, e5, 4, by decide, fun f => ?_⟩
  have g : z_R211 1000 (f + 3) 1241 (z + 1) [some (.ref 1300), some (.ref 0), some (.ref 70), some (.ref 116), some (.int (nI i)), some (.int c), some (.int y)] [] S2 = z_R211 1000 f 23 (z + 1) (Lo (nI (i + 6))) [] S2 := by
    rw [zq_211_1241]
    by_cases q : c = 0
    · rw [if_pos q, e4 q, lg_self, if_pos rfl, zq_211_1258, zq_211_1725, nI_add]
    · rw [if_neg q, zq_211_1258, zq_211_1725, nI_add]
  rw [zq_211_1193, hS.ix (k := 1) hi hn (by decide), cond_true, hS.ix (k := 2) hi hn (by decide), cond_true, hS.rd (k := 1) hi hn (by decide), hS.rd (k := 2) hi hn (by decide), blt_t hz, cond_true, e1, cli_i, f1.ix (k := 1) hi hn (by decide), cond_true, f1.ix (k := 2) hi hn (by decide), cond_true, f1.rd (k := 1) hi hn (by decide), f1.rd (k := 2) hi hn (by decide), e2, cli_i, zx_110 999, cli_i, if_pos e3]
  exact g
theorem w_205 {d : Nat} {l1 l2 l3 x : Int32} {S S1 : z_St} (h : z_ew d 90 [.ref 0, .int l1, .int l2, .int l3] S = some (.inl (some (.int x)), S1)) : z_ew (d + 1) 205 [.ref 0, .int l1, .int l2, .int l3, .ref 116] S = some (.inl (some (.int (nI 0))), (S1.1, z_w2 S1.2 116 0 x.toInt64)) := by rw [zx_205, h, cli_i, zq_205_19]
theorem w_205x {d : Nat} {l1 l2 l3 : Int32} {S S1 : z_St} (h : z_ew d 90 [.ref 0, .int l1, .int l2, .int l3] S = some (.inr 0, S1)) : z_ew (d + 1) 205 [.ref 0, .int l1, .int l2, .int l3, .ref 116] S = some (.inl (some (.int 1)), S1) := by
  rw [zx_205, h]
  rfl
theorem lc_16 {n i z : Nat} {xs : Nat → Int32} {S : z_St} (h : OpW 205 171 [.int (xs (i + 1)), .int (xs (i + 2)), .int (xs (i + 3))]) (hS : lS n xs S) (hA : AI S) (hi : i + 6 ≤ n) (hn : n ≤ 384) (hz : z < 100000) : ∃ S1, lS n xs S1 ∧ AI S1 ∧ ∃ c, c ≤ 8 ∧ ∀ f, z_R211 1000 (f + c) 1261 z (Lo (nI i)) [] S = z_R211 1000 f 23 (z + 1) (Lo (nI (i + 6))) [] S1 := by
  obtain ⟨c, y, S1, S2, e1, e2, e3, e4, e5⟩ := h S hA
  change z_ew 1000 205 [.ref 0, .int (xs (i + 1)), .int (xs (i + 2)), .int (xs (i + 3)), .ref 116] S = some (.inl (some (.int c)), S1) at e1
  have f1 : lS n xs S1 := hS.f (z_fr_ew 1000 205 _ _ _ _ (by decide) e1)
  have f2 : lS n xs S2 := f1.f (z_fr_ew 1000 171 _ _ _ _ (by decide) e2)
  refine ⟨S2, f2, e5, 4, by decide, fun f => ?_⟩
  have g : z_R211 1000 (f + 3) 1321 (z + 1) [some (.ref 1300), some (.ref 0), some (.ref 70), some (.ref 116), some (.int (nI i)), some (.int c), some (.int y)] [] S2 = z_R211 1000 f 23 (z + 1) (Lo (nI (i + 6))) [] S2 := by
    rw [zq_211_1321]
    by_cases q : c = 0
    · rw [if_pos q, e4 q, lg_self, if_pos rfl, zq_211_1338, zq_211_1725, nI_add]
    · rw [if_neg q, zq_211_1338, zq_211_1725, nI_add]
  rw [zq_211_1261, hS.ix (k := 1) hi hn (by decide), cond_true, hS.ix (k := 2) hi hn (by decide), cond_true, hS.ix (k := 3) hi hn (by decide), cond_true, hS.rd (k := 1) hi hn (by decide), hS.rd (k := 2) hi hn (by decide), hS.rd (k := 3) hi hn (by decide), blt_t hz, cond_true, e1, cli_i, f1.ix (k := 1) hi hn (by decide), cond_true, f1.ix (k := 2) hi hn (by decide), cond_true, f1.ix (k := 3) hi hn (by decide), cond_true, f1.rd (k := 1) hi hn (by decide), f1.rd (k := 2) hi hn (by decide), f1.rd (k := 3) hi hn (by decide), e2, cli_i, zx_110 999, cli_i, if_pos e3]
  exact g
theorem w_206 {d : Nat} {l1 x : Int32} {S S1 : z_St} (h : z_ew d 91 [.ref 0, .int l1] S = some (.inl (some (.int x)), S1)) : z_ew (d + 1) 206 [.ref 0, .int l1, .ref 116] S = some (.inl (some (.int (nI 0))), (S1.1, z_w2 S1.2 116 0 x.toInt64)) := by rw [zx_206, h, cli_i, zq_206_15]
theorem w_206x {d : Nat} {l1 : Int32} {S S1 : z_St} (h : z_ew d 91 [.ref 0, .int l1] S = some (.inr 0, S1)) : z_ew (d + 1) 206 [.ref 0, .int l1, .ref 116] S = some (.inl (some (.int 1)), S1) := by
  rw [zx_206, h]
  rfl
theorem lc_17 {n i z : Nat} {xs : Nat → Int32} {S : z_St} (h : OpW 206 172 [.int (xs (i + 1))]) (hS : lS n xs S) (hA : AI S) (hi : i + 6 ≤ n) (hn : n ≤ 384) (hz : z < 100000) : ∃ S1, lS n xs S1 ∧ AI S1 ∧ ∃ c, c ≤ 8 ∧ ∀ f, z_R211 1000 (f + c) 1341 z (Lo (nI i)) [] S = z_R211 1000 f 23 (z + 1) (Lo (nI (i + 6))) [] S1 := by
  obtain ⟨c, y, S1, S2, e1, e2, e3, e4, e5⟩ := h S hA
  change z_ew 1000 206 [.ref 0, .int (xs (i + 1)), .ref 116] S = some (.inl (some (.int c)), S1) at e1
  have f1 : lS n xs S1 := hS.f (z_fr_ew 1000 206 _ _ _ _ (by decide) e1)
  have f2 : lS n xs S2 := f1.f (z_fr_ew 1000 172 _ _ _ _ (by decide) e2)
  refine ⟨S2, f2, e5, 4, by decide, fun f => ?_⟩
  have g : z_R211 1000 (f + 3) 1377 (z + 1) [some (.ref 1300), some (.ref 0), some (.ref 70), some (.ref 116), some (.int (nI i)), some (.int c), some (.int y)] [] S2 = z_R211 1000 f 23 (z + 1) (Lo (nI (i + 6))) [] S2 := by
    rw [zq_211_1377]
    by_cases q : c = 0
    · rw [if_pos q, e4 q, lg_self, if_pos rfl, zq_211_1394, zq_211_1725, nI_add]
    · rw [if_neg q, zq_211_1394, zq_211_1725, nI_add]
  rw [zq_211_1341, hS.ix (k := 1) hi hn (by decide), cond_true, hS.rd (k := 1) hi hn (by decide), blt_t hz, cond_true, e1, cli_i, f1.ix (k := 1) hi hn (by decide), cond_true, f1.rd (k := 1) hi hn (by decide), e2, cli_i, zx_110 999, cli_i, if_pos e3]
  exact g
theorem w_207 {d : Nat} {l1 l2 l3 x : Int32} {S S1 : z_St} (h : z_ew d 92 [.ref 0, .int l1, .int l2, .int l3] S = some (.inl (some (.int x)), S1)) : z_ew (d + 1) 207 [.ref 0, .int l1, .int l2, .int l3, .ref 116] S = some (.inl (some (.int (nI 0))), (S1.1, z_w2 S1.2 116 0 x.toInt64)) := by rw [zx_207, h, cli_i, zq_207_19]
theorem w_207x {d : Nat} {l1 l2 l3 : Int32} {S S1 : z_St} (h : z_ew d 92 [.ref 0, .int l1, .int l2, .int l3] S = some (.inr 0, S1)) : z_ew (d + 1) 207 [.ref 0, .int l1, .int l2, .int l3, .ref 116] S = some (.inl (some (.int 1)), S1) := by
  rw [zx_207, h]
  rfl
theorem lc_18 {n i z : Nat} {xs : Nat → Int32} {S : z_St} (h : OpW 207 173 [.int (xs (i + 1)), .int (xs (i + 2)), .int (xs (i + 3))]) (hS : lS n xs S) (hA : AI S) (hi : i + 6 ≤ n) (hn : n ≤ 384) (hz : z < 100000) : ∃ S1, lS n xs S1 ∧ AI S1 ∧ ∃ c, c ≤ 8 ∧ ∀ f, z_R211 1000 (f + c) 1397 z (Lo (nI i)) [] S = z_R211 1000 f 23 (z + 1) (Lo (nI (i + 6))) [] S1 := by
  obtain ⟨c, y, S1, S2, e1, e2, e3, e4, e5⟩ := h S hA
  change z_ew 1000 207 [.ref 0, .int (xs (i + 1)), .int (xs (i + 2)), .int (xs (i + 3)), .ref 116] S = some (.inl (some (.int c)), S1) at e1
  have f1 : lS n xs S1 := hS.f (z_fr_ew 1000 207 _ _ _ _ (by decide) e1)
  have f2 : lS n xs S2 := f1.f (z_fr_ew 1000 173 _ _ _ _ (by decide) e2)
  refine ⟨S2, f2, e5, 4, by decide, fun f => ?_⟩
  have g : z_R211 1000 (f + 3) 1457 (z + 1) [some (.ref 1300), some (.ref 0), some (.ref 70), some (.ref 116), some (.int (nI i)), some (.int c), some (.int y)] [] S2 = z_R211 1000 f 23 (z + 1) (Lo (nI (i + 6))) [] S2 := by
    rw [zq_211_1457]
    by_cases q : c = 0
    · rw [if_pos q, e4 q, lg_self, if_pos rfl, zq_211_1474, zq_211_1725, nI_add]
    · rw [if_neg q, zq_211_1474, zq_211_1725, nI_add]
  rw [zq_211_1397, hS.ix (k := 1) hi hn (by decide), cond_true, hS.ix (k := 2) hi hn (by decide), cond_true, hS.ix (k := 3) hi hn (by decide), cond_true, hS.rd (k := 1) hi hn (by decide), hS.rd (k := 2) hi hn (by decide), hS.rd (k := 3) hi hn (by decide), blt_t hz, cond_true, e1, cli_i, f1.ix (k := 1) hi hn (by decide), cond_true, f1.ix (k := 2) hi hn (by decide), cond_true, f1.ix (k := 3) hi hn (by decide), cond_true, f1.rd (k := 1) hi hn (by decide), f1.rd (k := 2) hi hn (by decide), f1.rd (k := 3) hi hn (by decide), e2, cli_i, zx_110 999, cli_i, if_pos e3]
  exact g
theorem w_208 {d : Nat} {l1 x : Int32} {S S1 : z_St} (h : z_ew d 94 [.ref 0, .int l1] S = some (.inl (some (.int x)), S1)) : z_ew (d + 1) 208 [.ref 0, .int l1, .ref 116] S = some (.inl (some (.int (nI 0))), (S1.1, z_w2 S1.2 116 0 x.toInt64)) := by rw [zx_208, h, cli_i, zq_208_15]
theorem w_208x {d : Nat} {l1 : Int32} {S S1 : z_St} (h : z_ew d 94 [.ref 0, .int l1] S = some (.inr 0, S1)) : z_ew (d + 1) 208 [.ref 0, .int l1, .ref 116] S = some (.inl (some (.int 1)), S1) := by
  rw [zx_208, h]
  rfl
theorem lc_20 {n i z : Nat} {xs : Nat → Int32} {S : z_St} (h : OpW 208 176 [.int (xs (i + 1))]) (hS : lS n xs S) (hA : AI S) (hi : i + 6 ≤ n) (hn : n ≤ 384) (hz : z < 100000) : ∃ S1, lS n xs S1 ∧ AI S1 ∧ ∃ c, c ≤ 8 ∧ ∀ f, z_R211 1000 (f + c) 1490 z (Lo (nI i)) [] S = z_R211 1000 f 23 (z + 1) (Lo (nI (i + 6))) [] S1 := by
  obtain ⟨c, y, S1, S2, e1, e2, e3, e4, e5⟩ := h S hA
  change z_ew 1000 208 [.ref 0, .int (xs (i + 1)), .ref 116] S = some (.inl (some (.int c)), S1) at e1
  have f1 : lS n xs S1 := hS.f (z_fr_ew 1000 208 _ _ _ _ (by decide) e1)
  have f2 : lS n xs S2 := f1.f (z_fr_ew 1000 176 _ _ _ _ (by decide) e2)
  refine ⟨S2, f2, e5, 4, by decide, fun f => ?_⟩
  have g : z_R211 1000 (f + 3) 1526 (z + 1) [some (.ref 1300), some (.ref 0), some (.ref 70), some (.ref 116), some (.int (nI i)), some (.int c), some (.int y)] [] S2 = z_R211 1000 f 23 (z + 1) (Lo (nI (i + 6))) [] S2 := by
    rw [zq_211_1526]
    by_cases q : c = 0
    · rw [if_pos q, e4 q, lg_self, if_pos rfl, zq_211_1543, zq_211_1725, nI_add]
    · rw [if_neg q, zq_211_1543, zq_211_1725, nI_add]
  rw [zq_211_1490, hS.ix (k := 1) hi hn (by decide), cond_true, hS.rd (k := 1) hi hn (by decide), blt_t hz, cond_true, e1, cli_i, f1.ix (k := 1) hi hn (by decide), cond_true, f1.rd (k := 1) hi hn (by decide), e2, cli_i, zx_110 999, cli_i, if_pos e3]
  exact g
theorem w_209 {d : Nat} {l1 l2 l3 x : Int32} {S S1 : z_St} (h : z_ew d 95 [.ref 0, .int l1, .int l2, .int l3] S = some (.inl (some (.int x)), S1)) : z_ew (d + 1) 209 [.ref 0, .int l1, .int l2, .int l3, .ref 116] S = some (.inl (some (.int (nI 0))), (S1.1, z_w2 S1.2 116 0 (if x = 0 then lN 0 else lN 1))) := by
  rw [zx_209, h, cli_i]
  by_cases q : x = 0
  · rw [if_pos q, if_pos q, zq_209_17, zq_209_18, ix_0, cond_true, zq_209_26]
    rfl
  · rw [if_neg q, if_neg q, zq_209_18, ix_0, cond_true, zq_209_26]
    rfl
theorem w_209x {d : Nat} {l1 l2 l3 : Int32} {S S1 : z_St} (h : z_ew d 95 [.ref 0, .int l1, .int l2, .int l3] S = some (.inr 0, S1)) : z_ew (d + 1) 209 [.ref 0, .int l1, .int l2, .int l3, .ref 116] S = some (.inl (some (.int 1)), S1) := by
  rw [zx_209, h]
  rfl
theorem lc_21 {n i z : Nat} {xs : Nat → Int32} {S : z_St} (h : OpB 209 177 [.int (xs (i + 1)), .int (xs (i + 2)), .int (xs (i + 3))]) (hS : lS n xs S) (hA : AI S) (hi : i + 6 ≤ n) (hn : n ≤ 384) (hz : z < 100000) : ∃ S1, lS n xs S1 ∧ AI S1 ∧ ∃ c, c ≤ 8 ∧ ∀ f, z_R211 1000 (f + c) 1546 z (Lo (nI i)) [] S = z_R211 1000 f 23 (z + 1) (Lo (nI (i + 6))) [] S1 := by
  obtain ⟨c, y, S1, S2, e1, e2, e3, e4, e5⟩ := h S hA
  change z_ew 1000 209 [.ref 0, .int (xs (i + 1)), .int (xs (i + 2)), .int (xs (i + 3)), .ref 116] S = some (.inl (some (.int c)), S1) at e1
  have f1 : lS n xs S1 := hS.f (z_fr_ew 1000 209 _ _ _ _ (by decide) e1)
  have f2 : lS n xs S2 := f1.f (z_fr_ew 1000 177 _ _ _ _ (by decide) e2)
  by_cases q : c = 0
  · by_cases q2 : y = 0
    · refine ⟨S2, f2, e5, 6, by decide, fun f => ?_⟩
      have e6 := e4 q
      rw [if_pos q2] at e6
      rw [zq_211_1546, hS.ix (k := 1) hi hn (by decide), cond_true, hS.ix (k := 2) hi hn (by decide), cond_true, hS.ix (k := 3) hi hn (by decide), cond_true, hS.rd (k := 1) hi hn (by decide), hS.rd (k := 2) hi hn (by decide), hS.rd (k := 3) hi hn (by decide), blt_t hz, cond_true, e1, cli_i, f1.ix (k := 1) hi hn (by decide), cond_true, f1.ix (k := 2) hi hn (by decide), cond_true, f1.ix (k := 3) hi hn (by decide), cond_true, f1.rd (k := 1) hi hn (by decide), f1.rd (k := 2) hi hn (by decide), f1.rd (k := 3) hi hn (by decide), e2, cli_i, zx_110 999, cli_i, if_pos e3, zq_211_1606, if_pos q, if_pos q2, zq_211_1623, zq_211_1624, e6, lg_self, if_pos rfl, zq_211_1630, zq_211_1725, nI_add]
    · refine ⟨S2, f2, e5, 5, by decide, fun f => ?_⟩
      have e6 := e4 q
      rw [if_neg q2] at e6
      rw [zq_211_1546, hS.ix (k := 1) hi hn (by decide), cond_true, hS.ix (k := 2) hi hn (by decide), cond_true, hS.ix (k := 3) hi hn (by decide), cond_true, hS.rd (k := 1) hi hn (by decide), hS.rd (k := 2) hi hn (by decide), hS.rd (k := 3) hi hn (by decide), blt_t hz, cond_true, e1, cli_i, f1.ix (k := 1) hi hn (by decide), cond_true, f1.ix (k := 2) hi hn (by decide), cond_true, f1.ix (k := 3) hi hn (by decide), cond_true, f1.rd (k := 1) hi hn (by decide), f1.rd (k := 2) hi hn (by decide), f1.rd (k := 3) hi hn (by decide), e2, cli_i, zx_110 999, cli_i, if_pos e3, zq_211_1606, if_pos q, if_neg q2, zq_211_1624, e6, lg_self, if_pos rfl, zq_211_1630, zq_211_1725, nI_add]
  · refine ⟨S2, f2, e5, 4, by decide, fun f => ?_⟩
    rw [zq_211_1546, hS.ix (k := 1) hi hn (by decide), cond_true, hS.ix (k := 2) hi hn (by decide), cond_true, hS.ix (k := 3) hi hn (by decide), cond_true, hS.rd (k := 1) hi hn (by decide), hS.rd (k := 2) hi hn (by decide), hS.rd (k := 3) hi hn (by decide), blt_t hz, cond_true, e1, cli_i, f1.ix (k := 1) hi hn (by decide), cond_true, f1.ix (k := 2) hi hn (by decide), cond_true, f1.ix (k := 3) hi hn (by decide), cond_true, f1.rd (k := 1) hi hn (by decide), f1.rd (k := 2) hi hn (by decide), f1.rd (k := 3) hi hn (by decide), e2, cli_i, zx_110 999, cli_i, if_pos e3, zq_211_1606, if_neg q, zq_211_1630, zq_211_1725, nI_add]
theorem w_210 {d : Nat} {l1 l2 x : Int32} {S S1 : z_St} (h : z_ew d 96 [.ref 0, .int l1, .int l2] S = some (.inl (some (.int x)), S1)) : z_ew (d + 1) 210 [.ref 0, .int l1, .int l2, .ref 116] S = some (.inl (some (.int (nI 0))), (S1.1, z_w2 S1.2 116 0 x.toInt64)) := by rw [zx_210, h, cli_i, zq_210_21]
theorem w_210x0 {d : Nat} {l1 l2 : Int32} {S S1 : z_St} (h : z_ew d 96 [.ref 0, .int l1, .int l2] S = some (.inr 0, S1)) : z_ew (d + 1) 210 [.ref 0, .int l1, .int l2, .ref 116] S = some (.inl (some (.int 1)), S1) := by
  rw [zx_210, h]
  rfl
theorem w_210x1 {d : Nat} {l1 l2 : Int32} {S S1 : z_St} (h : z_ew d 96 [.ref 0, .int l1, .int l2] S = some (.inr 1, S1)) : z_ew (d + 1) 210 [.ref 0, .int l1, .int l2, .ref 116] S = some (.inl (some (.int 2)), S1) := by
  rw [zx_210, h]
  rfl
theorem lc_22 {n i z : Nat} {xs : Nat → Int32} {S : z_St} (h : OpW 210 180 [.int (xs (i + 1)), .int (xs (i + 2))]) (hS : lS n xs S) (hA : AI S) (hi : i + 6 ≤ n) (hn : n ≤ 384) (hz : z < 100000) : ∃ S1, lS n xs S1 ∧ AI S1 ∧ ∃ c, c ≤ 8 ∧ ∀ f, z_R211 1000 (f + c) 1633 z (Lo (nI i)) [] S = z_R211 1000 f 23 (z + 1) (Lo (nI (i + 6))) [] S1 := by
  obtain ⟨c, y, S1, S2, e1, e2, e3, e4, e5⟩ := h S hA
  change z_ew 1000 210 [.ref 0, .int (xs (i + 1)), .int (xs (i + 2)), .ref 116] S = some (.inl (some (.int c)), S1) at e1
  have f1 : lS n xs S1 := hS.f (z_fr_ew 1000 210 _ _ _ _ (by decide) e1)
  have f2 : lS n xs S2 := f1.f (z_fr_ew 1000 180 _ _ _ _ (by decide) e2)
  refine ⟨S2, f2, e5, 4, by decide, fun f => ?_⟩
  have g : z_R211 1000 (f + 3) 1681 (z + 1) [some (.ref 1300), some (.ref 0), some (.ref 70), some (.ref 116), some (.int (nI i)), some (.int c), some (.int y)] [] S2 = z_R211 1000 f 23 (z + 1) (Lo (nI (i + 6))) [] S2 := by
    rw [zq_211_1681]
    by_cases q : c = 0
    · rw [if_pos q, e4 q, lg_self, if_pos rfl, zq_211_1698, zq_211_1725, nI_add]
    · rw [if_neg q, zq_211_1698, zq_211_1725, nI_add]
  rw [zq_211_1633, hS.ix (k := 1) hi hn (by decide), cond_true, hS.ix (k := 2) hi hn (by decide), cond_true, hS.rd (k := 1) hi hn (by decide), hS.rd (k := 2) hi hn (by decide), blt_t hz, cond_true, e1, cli_i, f1.ix (k := 1) hi hn (by decide), cond_true, f1.ix (k := 2) hi hn (by decide), cond_true, f1.rd (k := 1) hi hn (by decide), f1.rd (k := 2) hi hn (by decide), e2, cli_i, zx_110 999, cli_i, if_pos e3]
  exact g
theorem lc_0 {n i z : Nat} {xs : Nat → Int32} {S : z_St} (h : ∀ S, AI S → ∃ (y : Int32) (S1 S2 : z_St), z_ew 1000 74 [.ref 0, .int (xs (i + 1)), .int (xs (i + 2)), .int (xs (i + 3)), .int (xs (i + 4)), .int (xs (i + 5))] S = some (.inl (some (.int y)), S1) ∧ z_ew 1000 115 [.ref 70, .int (xs (i + 1)), .int (xs (i + 2)), .int (xs (i + 3)), .int (xs (i + 4)), .int (xs (i + 5))] S1 = some (.inl (some (.int y)), S2) ∧ AI S2) (hS : lS n xs S) (hA : AI S) (hi : i + 6 ≤ n) (hn : n ≤ 384) (hz : z < 100000) : ∃ S1, lS n xs S1 ∧ AI S1 ∧ ∃ c, c ≤ 8 ∧ ∀ f, z_R211 1000 (f + c) 156 z (Lo (nI i)) [] S = z_R211 1000 f 23 z (Lo (nI (i + 6))) [] S1 := by
  obtain ⟨y, S1, S2, e1, e2, e5⟩ := h S hA
  have f1 : lS n xs S1 := hS.f (z_fr_ew 1000 74 _ _ _ _ (by decide) e1)
  have f2 : lS n xs S2 := f1.f (z_fr_ew 1000 115 _ _ _ _ (by decide) e2)
  refine ⟨S2, f2, e5, 2, by decide, fun f => ?_⟩
  rw [zq_211_156, hS.ix (k := 1) hi hn (by decide), cond_true, hS.ix (k := 2) hi hn (by decide), cond_true, hS.ix (k := 3) hi hn (by decide), cond_true, hS.ix (k := 4) hi hn (by decide), cond_true, hS.ix (k := 5) hi hn (by decide), cond_true, hS.rd (k := 1) hi hn (by decide), hS.rd (k := 2) hi hn (by decide), hS.rd (k := 3) hi hn (by decide), hS.rd (k := 4) hi hn (by decide), hS.rd (k := 5) hi hn (by decide), e1, cli_i, f1.ix (k := 1) hi hn (by decide), cond_true, f1.ix (k := 2) hi hn (by decide), cond_true, f1.ix (k := 3) hi hn (by decide), cond_true, f1.ix (k := 4) hi hn (by decide), cond_true, f1.ix (k := 5) hi hn (by decide), cond_true, f1.rd (k := 1) hi hn (by decide), f1.rd (k := 2) hi hn (by decide), f1.rd (k := 3) hi hn (by decide), f1.rd (k := 4) hi hn (by decide), f1.rd (k := 5) hi hn (by decide), e2, cli_i, if_pos rfl, zq_211_1725, nI_add]
theorem lc_2 {n i z : Nat} {xs : Nat → Int32} {S : z_St} (h : ∀ S, AI S → ∃ (y : Int32) (S1 S2 : z_St), z_ew 1000 76 [.ref 0] S = some (.inl (some (.int y)), S1) ∧ z_ew 1000 139 [.ref 70] S1 = some (.inl (some (.int y)), S2) ∧ AI S2) (hS : lS n xs S) (hA : AI S) (hi : i + 6 ≤ n) (hn : n ≤ 384) (hz : z < 100000) : ∃ S1, lS n xs S1 ∧ AI S1 ∧ ∃ c, c ≤ 8 ∧ ∀ f, z_R211 1000 (f + c) 285 z (Lo (nI i)) [] S = z_R211 1000 f 23 z (Lo (nI (i + 6))) [] S1 := by
  obtain ⟨y, S1, S2, e1, e2, e5⟩ := h S hA
  have f1 : lS n xs S1 := hS.f (z_fr_ew 1000 76 _ _ _ _ (by decide) e1)
  have f2 : lS n xs S2 := f1.f (z_fr_ew 1000 139 _ _ _ _ (by decide) e2)
  refine ⟨S2, f2, e5, 2, by decide, fun f => ?_⟩
  rw [zq_211_285, e1, cli_i, e2, cli_i, if_pos rfl, zq_211_1725, nI_add]
theorem lc_19 {n i z : Nat} {xs : Nat → Int32} {S : z_St} (h : ∀ S, AI S → ∃ (y : Int32) (S1 S2 : z_St), z_ew 1000 93 [.ref 0] S = some (.inl (some (.int y)), S1) ∧ z_ew 1000 175 [.ref 70] S1 = some (.inl (some (.int y)), S2) ∧ AI S2) (hS : lS n xs S) (hA : AI S) (hi : i + 6 ≤ n) (hn : n ≤ 384) (hz : z < 100000) : ∃ S1, lS n xs S1 ∧ AI S1 ∧ ∃ c, c ≤ 8 ∧ ∀ f, z_R211 1000 (f + c) 1477 z (Lo (nI i)) [] S = z_R211 1000 f 23 z (Lo (nI (i + 6))) [] S1 := by
  obtain ⟨y, S1, S2, e1, e2, e5⟩ := h S hA
  have f1 : lS n xs S1 := hS.f (z_fr_ew 1000 93 _ _ _ _ (by decide) e1)
  have f2 : lS n xs S2 := f1.f (z_fr_ew 1000 175 _ _ _ _ (by decide) e2)
  refine ⟨S2, f2, e5, 2, by decide, fun f => ?_⟩
  rw [zq_211_1477, e1, cli_i, e2, cli_i, if_pos rfl, zq_211_1725, nI_add]
theorem lc_24 {n i z : Nat} {xs : Nat → Int32} {S : z_St} (h : ∀ S, AI S → ∃ (y : Int32) (S1 S2 : z_St), z_ew 1000 98 [.ref 0] S = some (.inl (some (.int y)), S1) ∧ z_ew 1000 184 [.ref 70] S1 = some (.inl (some (.int y)), S2) ∧ AI S2) (hS : lS n xs S) (hA : AI S) (hi : i + 6 ≤ n) (hn : n ≤ 384) (hz : z < 100000) : ∃ S1, lS n xs S1 ∧ AI S1 ∧ ∃ c, c ≤ 8 ∧ ∀ f, z_R211 1000 (f + c) 1712 z (Lo (nI i)) [] S = z_R211 1000 f 23 z (Lo (nI (i + 6))) [] S1 := by
  obtain ⟨y, S1, S2, e1, e2, e5⟩ := h S hA
  have f1 : lS n xs S1 := hS.f (z_fr_ew 1000 98 _ _ _ _ (by decide) e1)
  have f2 : lS n xs S2 := f1.f (z_fr_ew 1000 184 _ _ _ _ (by decide) e2)
  refine ⟨S2, f2, e5, 2, by decide, fun f => ?_⟩
  rw [zq_211_1712, e1, cli_i, e2, cli_i, if_pos rfl, zq_211_1725, nI_add]
theorem lc_23 {n i z : Nat} {xs : Nat → Int32} {S : z_St} (h : ∀ S, AI S → ∃ (S1 S2 : z_St), z_ew 1000 97 [.ref 0] S = some (.inl none, S1) ∧ z_ew 1000 183 [.ref 70] S1 = some (.inl none, S2) ∧ AI S2) (hS : lS n xs S) (hA : AI S) (hi : i + 6 ≤ n) (hn : n ≤ 384) (hz : z < 100000) : ∃ S1, lS n xs S1 ∧ AI S1 ∧ ∃ c, c ≤ 8 ∧ ∀ f, z_R211 1000 (f + c) 1701 z (Lo (nI i)) [] S = z_R211 1000 f 23 z (Lo (nI (i + 6))) [] S1 := by
  obtain ⟨S1, S2, e1, e2, e5⟩ := h S hA
  have f1 : lS n xs S1 := hS.f (z_fr_ew 1000 97 _ _ _ _ (by decide) e1)
  have f2 : lS n xs S2 := f1.f (z_fr_ew 1000 183 _ _ _ _ (by decide) e2)
  refine ⟨S2, f2, e5, 2, by decide, fun f => ?_⟩
  rw [zq_211_1701, e1, clv_v, e2, clv_v, zq_211_1725, nI_add]
