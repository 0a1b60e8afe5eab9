/-! how many ways: the call -/
theorem sel_a : ∀ row : List Nat, sel row (2 ^ row.length - 1) = row
  | [] => rfl
  | x :: t => by
    have ih := sel_a t
    have h1 : 0 < 2 ^ t.length := Nat.pow_pos (by decide)
    have e1 : (2 ^ (x :: t).length - 1) % 2 = 1 := by rw [List.length_cons, Nat.pow_succ]; omega
    have e2 : (2 ^ (x :: t).length - 1) / 2 = 2 ^ t.length - 1 := by rw [List.length_cons, Nat.pow_succ]; omega
    show (if (2 ^ (x :: t).length - 1) % 2 = 1 then x :: sel t ((2 ^ (x :: t).length - 1) / 2) else sel t ((2 ^ (x :: t).length - 1) / 2)) = _
    rw [if_pos e1, e2, ih]
theorem rsL_a (k : Nat) : rsL (-1) k = List.range k := by
  unfold rsL
  rw [List.filter_eq_self]
  intro x _
  rw [decide_eq_false (by omega)]
  rfl
/-- the ways of a book -/
def wyA (A : aS) (b : Nat) : List (List Nat) := wy (cK A b (A 4 0).toNat) (List.range (A 3 0).toNat) (rv A b (A 6 0).toNat).reverse s0
section CWY
variable {p : Nat} {A : aS} {S : z_St}
theorem F62.f {b N r k : Nat} {rev : List Nat} {S' : z_St} (h : F62 A b N rev S r k) (hf : ∀ i, S'.1 62 i = S.1 62 i) : F62 A b N rev S' r k := ⟨fun r' m h1 h2 => (hf _).trans (h.1 r' m h1 h2), fun m h1 => (hf _).trans (h.2 m h1)⟩
theorem wy_l {b : Nat} (hw : wf A) : (wyA A b).length ≤ 262144 := by
  have hr2 := hw.r
  have hk := hw.k
  have h1 := nw_le (cK A b (A 4 0).toNat) (List.range (A 3 0).toNat) (rv A b (A 6 0).toNat).reverse s0
  have h2 := (oks_rv hw (b := b)).1
  rw [List.length_range, List.length_reverse] at h1
  have h3 : (A 3 0).toNat ^ (rv A b (A 6 0).toNat).length ≤ 8 ^ (rv A b (A 6 0).toNat).length := Nat.pow_le_pow_left (by omega) _
  have h4 : 8 ^ (rv A b (A 6 0).toNat).length ≤ 8 ^ 6 := Nat.pow_le_pow_right (by decide) (by omega)
  exact Nat.le_trans h1 (Nat.le_trans h3 h4)
theorem c_wys {b : Nat} (hw : wf A) (hG : GG A p b (A 4 0).toNat (rv A b (A 6 0).toNat) S) (hF : F62 A b (A 4 0).toNat (rv A b (A 6 0).toNat) S (A 3 0).toNat 0) (d : Nat) : ∃ S', z_ew (d + 4) 43 [.ref 55] S = some (.inl (some (.int (iI ((wyA A b).length : Int)))), S') ∧ N63 A b (A 4 0).toNat (rv A b (A 6 0).toNat) (List.range (A 3 0).toNat) S' ∧ (∀ a i, a ≠ 63 → S'.1 a i = S.1 a i) ∧ S'.2 = S.2 := by
  have h7 := (oks_rv hw (b := b)).1
  obtain ⟨S', a1, a2, a3, a4⟩ := c_split (left := -1) hw h7 (by decide) hG hF d
  have hG' := hG.f (fun a i h => a3 a i (by omega)) a4
  have h64 := (all_t _ h7).2
  have hv := a2 (2 ^ (rv A b (A 6 0).toNat).length - 1) (by omega)
  rw [rsL_a] at a2 hv
  refine ⟨S', ?_, a2, a3, a4⟩
  rw [zx_43, nm1, a1, clv_v, c_all hG' h7 (d + 2), cli_i, ixN h64.1 (by decide), cond_true, tN (by omega), hv]
  have e : nM A b (A 4 0).toNat (rv A b (A 6 0).toNat) (List.range (A 3 0).toNat) (2 ^ (rv A b (A 6 0).toNat).length - 1) = (wyA A b).length := by
    unfold nM wyA
    have := sel_a (rv A b (A 6 0).toNat).reverse
    rw [List.length_reverse] at this
    rw [this]
    rfl
  rw [e]
theorem fC_g {S' : z_St} (hf : ∀ a i, a < 55 ∨ 64 ≤ a → S'.1 a i = S.1 a i) (h2 : S'.2 = S.2) : fC S S' := by
  intro a ha
  exact ⟨funext fun i => hf a i (by omega), by rw [h2]⟩
theorem m_wysA {b : Nat} (hM : MI A S) (hw : wf A) (hb : (b : Int) < A 2 0) (D : Nat) (hD : 12 ≤ D) : ∃ S', z_ew D 168 [.ref 70, .int (iI (b : Int)), .int (iI (-1))] S = some (.inl none, S') ∧ TT A (rv A b (A 6 0).toNat).reverse (A 3 0).toNat (wyA A b).reverse S' ∧ w8 (rv A b (A 6 0).toNat).reverse.length (wyA A b).reverse ∧ frY S S' := by
  have hr2 := hw.r
  have hl2 := hw.l
  have := m_tws (N := (A 4 0).toNat) (R := (A 3 0).toNat) (but := -1) hM hw (by omega) (by omega) hb (by decide) D hD
  rw [rvb_e] at this
  exact this
theorem fM_Y {S' : z_St} (h : frY S S') : fM S S' := by
  intro a ha
  exact ⟨funext fun i => h.1 a i (by omega) (by omega), by rw [h.2]⟩
theorem o_ways (a : Int32) : OpW 203 169 [.int a] := by
  intro S ⟨p, A, hC, hM, hw⟩
  obtain ⟨v, h1, h2, rfl⟩ := iI_of a
  by_cases q1 : 0 ≤ v ∧ v < A 2 0
  · obtain ⟨b, rfl, k1⟩ := okB.n q1
    obtain ⟨S1, a1, a2, a3, a4, a5⟩ := c_gather hw hC k1 994
    obtain ⟨S2, b1, b2, b3, b4⟩ := c_wys hw a2 a3 994
    have hG2 := a2.f (fun a i h => b3 a i (by omega)) b4
    refine opW_mk (cm := 88) (o := some ((wyA A b).length : Int)) (p' := p) (A' := A) (S1 := S2) (fun _ _ e => w_203 e) (fun _ e => w_203x e) hw hM ?_ (fC_g (fun a i h => (b3 a i (by omega)).trans (a4 a i h)) (b4.trans a5)) hG2.1 hw (fun S2 h => ?_)
    · rw [zx_88 998, rqB1 hC hw k1 997, clv_v, hC.p1, cond_false, hC.p2, a1, clv_v, b1, cli_i]
      rfl
    · have h0 : MI A (z_w1 S2.1 70 1 (nI 0), S2.2) := h.code hw
      obtain ⟨S3, c1, c2, _, c4⟩ := m_wysA h0 hw k1 999 (by decide)
      refine ⟨S3, ?_, (fM_w1 (S := S2) (a := 70) (i := 1) (v := nI 0) (by decide) (by decide)).tr (fM_Y c4), h0.fY hw c4, ?_⟩
      · rw [zx_169 999, isB1 h0 hw k1 997, cli_i, if_neg n10, zq_169_19, nm1, c1, clv_v, c2.1, List.length_reverse]
        rfl
      · rw [c4.1 70 1 (by decide) (by decide)]
        dsimp only
        rw [z_w1_r, if_pos ⟨rfl, rfl⟩]
        rfl
  · refine opW_mk (cm := 88) (o := none) (p' := p) (A' := A) (S1 := S) (fun _ _ e => w_203 e) (fun _ e => w_203x e) hw hM ?_ (fC.rf S) hC hw (fun S2 h => mQ_same hw h ?_)
    · rw [zx_88 998, rqB0 hC hw h1 h2 q1 997, clv_x, hnd_0]
      rfl
    · have h0 : MI A (z_w1 S2.1 70 1 (nI 0), S2.2) := h.code hw
      rw [zx_169 999, isB0 h0 hw h1 h2 q1 997, cli_i, if_pos z00, zx_111 998, cli_i, z_w1_w1]
      rfl
end CWY
