/-! tale, wish, turn -/
section MK2
variable {w m cm : Nat} {as : List Value} {S S1 : z_St} {o : Option Int} {p p' : Nat} {A A' : aS}
theorem opB_mk (hwr : ∀ x S1, z_ew 999 cm (.ref 0 :: as) S = some (.inl (some (.int x)), S1) → z_ew 1000 w (.ref 0 :: (as ++ [.ref 116])) S = some (.inl (some (.int (nI 0))), (S1.1, z_w2 S1.2 116 0 (if x = 0 then lN 0 else lN 1))))
    (hwx : ∀ S1, z_ew 999 cm (.ref 0 :: as) S = some (.inr 0, S1) → z_ew 1000 w (.ref 0 :: (as ++ [.ref 116])) S = some (.inl (some (.int 1)), S1))
    (hwA : wf A) (hMS : MI A S) (hc : z_ew 999 cm (.ref 0 :: as) S = some (rC 0 o, S1)) (hf : fC S S1) (hC : CI p' A' S1) (hwf : wf A') (hm : ∀ S2, MI A S2 → mQ m as (rM o) (rK o) A' S2) :
    ∃ (c y : Int32) (S1 S2 : z_St), z_ew 1000 w (.ref 0 :: (as ++ [.ref 116])) S = some (.inl (some (.int c)), S1) ∧ z_ew 1000 m (.ref 70 :: as) S1 = some (.inl (some (.int y)), S2) ∧ S2.1 70 1 = c ∧ (c = 0 → S2.2 116 0 = if y = 0 then lN 0 else lN 1) ∧ AI S2 := by
  have hM1 := hMS.c hwA hf
  cases o with
  | some x =>
    obtain ⟨S3, e1, e2, e3, e4⟩ := hm (S1.1, z_w2 S1.2 116 0 (if iI x = 0 then lN 0 else lN 1)) ⟨hM1.1, hM1.2⟩
    refine ⟨_, _, _, S3, hwr _ _ hc, e1, by rw [e4]; rfl, fun _ => ?_, p', A', hC.o.m e2, e3, hwf⟩
    rw [(e2 116 (by omega)).2]
    show z_w2 S1.2 116 0 _ 116 0 = _
    rw [z_w2_r, if_pos ⟨rfl, rfl⟩]
    rfl
  | none =>
    obtain ⟨S3, e1, e2, e3, e4⟩ := hm S1 hM1
    refine ⟨_, _, _, S3, hwx _ hc, e1, by rw [e4]; rfl, fun q => ?_, p', A', hC.m e2, e3, hwf⟩
    exact absurd q (by decide)
end MK2
section TAL
variable {p : Nat} {A : aS} {S : z_St}
theorem cd0 {M : z_Mi} {a i : Nat} {v : Int32} (ha : a ≠ 70 ∨ i ≠ 1) (hc : M 70 1 = iI 0) : z_w1 M a i v 70 1 = iI 0 := by
  rw [z_w1_r, if_neg (by omega)]
  exact hc
theorem cdz (M : z_Mi) : z_w1 M 70 1 (nI 0) 70 1 = iI 0 := by
  rw [z_w1_r, if_pos ⟨rfl, rfl⟩]
  rfl
theorem wf_38 {j : Nat} {v : Int} (h : wf A) (h1 : 0 ≤ v) (h2 : v ≤ 401) : wf (aU A 38 j v) := by
  obtain ⟨g1, ⟨a1, a2, a3, a4, a5, a6, a7, a8, a9, a10, a11, a12, a13, a14⟩, g3⟩ := h
  refine ⟨g1, ⟨a1, a2, a3, a4, a5, a6, a7, a8, a9, a10, a11, a12, a13, fun k hk => ?_⟩, g3⟩
  rw [aU_r]
  by_cases q : 38 = 38 ∧ k = j
  · rw [if_pos q]; exact ⟨h1, h2⟩
  · rw [if_neg q]; exact a14 k hk
theorem o_tale (a b c : Int32) : OpB 209 177 [.int a, .int b, .int c] := by
  intro S ⟨p, A, hC, hM, hw⟩
  obtain ⟨t, h1, h2, rfl⟩ := iI_of a
  obtain ⟨b, h3, h4, rfl⟩ := iI_of b
  obtain ⟨g, h5, h6, rfl⟩ := iI_of c
  have hb := hw.b
  by_cases q1 : 0 ≤ b ∧ b < A 2 0
  · obtain ⟨b, rfl, k1⟩ := okB.n q1
    by_cases q2 : 0 ≤ t ∧ t < 6 ∧ 0 ≤ g ∧ g ≤ 401
    · obtain ⟨t, rfl⟩ : ∃ k : Nat, t = k := ⟨t.toNat, by omega⟩
      refine opB_mk (cm := 95) (o := some 1) (p' := p) (A' := aU A 38 (t * 10 + b) g) (S1 := (z_w1 S.1 36 (t * 10 + b) (iI g), S.2)) (fun _ _ e => w_209 e) (fun _ e => w_209x e) hw hM ?_ (fC_w1 (by decide)) ?_ (wf_38 hw (by omega) (by omega)) (fun S2 h => ?_)
      · rw [zx_95 998, rqB1 hC hw k1 997, clv_v, iI_0, iI_n, iI_n, if_neg (by rw [iI_lt h1 h2 (by decide) (by decide)]; omega), if_neg (by rw [iI_le (by decide) (by decide) h1 h2]; omega), if_neg (by rw [iI_lt h5 h6 (by decide) (by decide)]; omega), if_pos (by rw [iI_le h5 h6 (by decide) (by decide)]; omega), zq_95_28, iI_n, iI_mul, iI_add]
        have e : (t : Int) * ((10 : Nat) : Int) + (b : Int) = ((t * 10 + b : Nat) : Int) := by omega
        rw [e, ixN (by omega) (by decide), tN (by omega)]
        rfl
      · have e := hC.w (x := 38) (j := t * 10 + b) (v := g) hw (by decide) (show t * 10 + b < 60 by omega) (by decide) (dD_u (by decide))
        have e2 : cx 38 (t * 10 + b) = t * 10 + b := by show 0 + 1 * (t * 10 + b) = _; omega
        rw [e2] at e
        exact e
      · have h0 : MI A (z_w1 S2.1 70 1 (nI 0), S2.2) := h.code hw
        have e := h0.w (x := 38) (j := t * 10 + b) (v := g) hw (by decide) (show t * 10 + b < 60 by omega) (by decide) (dD_u (by decide))
        have e2 : mx 38 (t * 10 + b) = t * 10 + b := by show 0 + 1 * (t * 10 + b) = _; omega
        rw [e2] at e
        refine ⟨_, ?_, (fM_w1 (by decide) (by decide)).tr (fM_w1 (a := 112) (i := t * 10 + b) (v := iI g) (by decide) (by decide)), e, ?_⟩
        rotate_left
        · dsimp only
          rw [z_w1_r, if_neg (by omega), cdz]
          rfl
        rw [zx_177 999, isB1 h0 hw k1 997, cli_i, if_neg n10, zq_177_20, iI_n, iI_n, iI_n, zy_112 998 t _ _ _ h1 h2 (by decide) (by decide) (by decide) (by decide), cli_i, if_neg (by rw [b01]; omega), zy_112 998 g _ _ _ h5 h6 (by decide) (by decide) (by decide) (by decide), cli_i, if_neg (by rw [b01]; omega), zq_177_42, iI_n, iI_mul, iI_add]
        have e : ((10 : Nat) : Int) * (t : Int) + (b : Int) = ((t * 10 + b : Nat) : Int) := by omega
        rw [e, ixN (by omega) (by decide), tN (by omega)]
        rfl
    · refine opB_mk (cm := 95) (o := some 0) (p' := p) (A' := A) (S1 := S) (fun _ _ e => w_209 e) (fun _ e => w_209x e) hw hM ?_ (fC.rf S) hC hw (fun S2 h => ?_)
      · rw [zx_95 998, rqB1 hC hw k1 997, clv_v, iI_0, iI_n, iI_n]
        simp only [zq_95_26, iI_lt h1 h2 (show (-2147483648 : Int) ≤ 0 by decide) (by decide), iI_le (show (-2147483648 : Int) ≤ ((6 : Nat) : Int) by decide) (by decide) h1 h2, iI_lt h5 h6 (show (-2147483648 : Int) ≤ 0 by decide) (by decide), iI_le h5 h6 (show (-2147483648 : Int) ≤ ((401 : Nat) : Int) by decide) (by decide)]
        by_cases g1 : t < 0
        · rw [if_pos g1]; rfl
        · rw [if_neg g1]
          by_cases g2 : ((6 : Nat) : Int) ≤ t
          · rw [if_pos g2]; rfl
          · rw [if_neg g2]
            by_cases g3 : g < 0
            · rw [if_pos g3]; rfl
            · rw [if_neg g3, if_neg (by omega)]; rfl
      · have h0 : MI A (z_w1 S2.1 70 1 (nI 0), S2.2) := h.code hw
        refine ⟨_, ?_, fM_w1 (by decide) (by decide), h0, cdz S2.1⟩
        rw [zx_177 999, isB1 h0 hw k1 997, cli_i, if_neg n10, zq_177_20, iI_n, iI_n, iI_n, zy_112 998 t _ _ _ h1 h2 (by decide) (by decide) (by decide) (by decide), cli_i]
        by_cases g1 : 0 ≤ t ∧ t < 6
        · rw [if_neg (by rw [b01]; omega), zy_112 998 g _ _ _ h5 h6 (by decide) (by decide) (by decide) (by decide), cli_i, if_pos (by rw [b01]; omega), zq_177_40]
          rfl
        · rw [if_pos (by rw [b01]; omega), zq_177_40]
          rfl
  · refine opB_mk (cm := 95) (o := none) (p' := p) (A' := A) (S1 := S) (fun _ _ e => w_209 e) (fun _ e => w_209x e) hw hM ?_ (fC.rf S) hC hw (fun S2 h => mQ_same hw h ?_)
    · rw [zx_95 998, rqB0 hC hw h3 h4 q1 997, clv_x, hnd_0]
      rfl
    · have h0 : MI A (z_w1 S2.1 70 1 (nI 0), S2.2) := h.code hw
      rw [zx_177 999, isB0 h0 hw h3 h4 q1 997, cli_i, if_pos z00, z_w1_w1]
      rfl
/-! a call refused -/
def aR (A : aS) (k : Nat) : aS := aU A 39 k (A 39 k + 1)
theorem cRef (h : CI p A S) (hw : wf A) {k : Nat} (hk : k < 5) : CI p (aR A k) (z_w1 S.1 37 k (S.1 37 k + nI 1), S.2) := by
  have e := h.w (x := 39) (j := k) (v := A 39 k + 1) hw (by decide) (show k < 5 from hk) (by decide) (dD_u (by decide))
  have e2 : cx 39 k = k := by show 0 + 1 * k = _; omega
  rw [e2] at e
  rw [c_39 h hk, iI_n, iI_add]
  exact e
theorem mRef (h : MI A S) (hw : wf A) {k : Nat} (hk : k < 5) : MI (aR A k) (z_w1 S.1 80 k (S.1 80 k + nI 1), S.2) := by
  have e := h.w (x := 39) (j := k) (v := A 39 k + 1) hw (by decide) (show k < 5 from hk) (by decide) (dD_u (by decide))
  have e2 : mx 39 k = k := by show 0 + 1 * k = _; omega
  rw [e2] at e
  rw [m_39 h hk, iI_n, iI_add]
  exact e
theorem wfR {k : Nat} (h : wf A) : wf (aR A k) := h
end TAL
