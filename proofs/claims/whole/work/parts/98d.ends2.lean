/-! ends: the call, whole -/
section EN2
variable {p : Nat} {A : aS} {S : z_St}
theorem iE_v {b r : Nat} {u v : Int} (hw : wf A) (hr : r < (A 3 0).toNat) (hu : u = 0 ∨ u = 1) (h : iE A b r u (2 ^ (rv A b (A 6 0).toNat).length) v) : ((wyA A b).reverse = [] → v = -1) ∧ ((wyA A b).reverse ≠ [] → v = if u = 0 then loP A (rv A b (A 6 0).toNat).reverse r (wyA A b).reverse else hiP A (rv A b (A 6 0).toNat).reverse r (wyA A b).reverse) := by
  have h7 := (oks_rv hw (b := b)).1
  have hlp : ∀ w, w ∈ wyA A b → mo r w < 2 ^ (rv A b (A 6 0).toNat).length ∧ lpR A (rv A b (A 6 0).toNat).reverse r w = pgM A (rv A b (A 6 0).toNat).reverse (mo r w) := by
    intro w h1
    have h4 := wy_f (cK A b (A 4 0).toNat) (List.range (A 3 0).toNat) (List.mem_range.mpr hr) (rv A b (A 6 0).toNat).reverse s0 w h1
    refine ⟨by have := h4.2.1; rw [List.length_reverse] at this; exact this, lpR_m (by rw [List.length_reverse]; exact h7) h4.1 h4.2.1⟩
  refine ⟨fun e => ?_, fun e => ?_⟩
  · rcases h with ⟨h, _⟩ | ⟨⟨m', _, ⟨w, hw', _⟩, _⟩, _⟩
    · exact h
    · rw [List.reverse_eq_nil_iff] at e
      rw [e] at hw'
      cases hw'
  · obtain ⟨⟨⟨x, x1, x2⟩, g2⟩, ⟨y, y1, y2⟩, g4⟩ := lo_c (A := A) (row := (rv A b (A 6 0).toNat).reverse) (r := r) _ e
    rw [List.mem_reverse] at x1 y1
    rcases h with ⟨_, h⟩ | ⟨⟨m', _, ⟨w, hw', hw2⟩, rfl⟩, h⟩
    · exact absurd ⟨x, x1, rfl⟩ (h (mo r x) (hlp x x1).1)
    · subst hw2
      have b1 := g2 w (List.mem_reverse.mpr hw')
      have b2 := g4 w (List.mem_reverse.mpr hw')
      have b3 := h (mo r x) (hlp x x1).1 ⟨x, x1, rfl⟩
      have b4 := h (mo r y) (hlp y y1).1 ⟨y, y1, rfl⟩
      rw [(hlp w hw').2] at b1 b2
      rw [(hlp x x1).2] at x2
      rw [(hlp y y1).2] at y2
      rcases hu with rfl | rfl
      · rw [if_pos rfl]
        have := b3.1 rfl
        omega
      · rw [if_neg (by decide)]
        have := b4.2 (by decide)
        omega
theorem c_en {b r : Nat} {u : Int} (hw : wf A) (hG : GG A p b (A 4 0).toNat (rv A b (A 6 0).toNat) S) (hF : F62 A b (A 4 0).toNat (rv A b (A 6 0).toNat) S (A 3 0).toNat 0) (hr : r < (A 3 0).toNat) (hu : u = 0 ∨ u = 1) (d : Nat) : ∃ v S', z_ew (d + 4) 45 [.ref 55, .int (iI (r : Int)), .int (iI u)] S = some (.inl (some (.int (iI v))), S') ∧ iE A b r u (2 ^ (rv A b (A 6 0).toNat).length) v ∧ (∀ a i, a ≠ 63 → S'.1 a i = S.1 a i) ∧ S'.2 = S.2 := by
  have hr2 := hw.r
  have h7 := (oks_rv hw (b := b)).1
  have h6 : 2 ^ (rv A b (A 6 0).toNat).length ≤ 2 ^ 6 := Nat.pow_le_pow_right (by decide) (by omega)
  obtain ⟨S1, a1, a2, a3, a4⟩ := c_split (left := (r : Int)) hw h7 (by omega) hG hF d
  have hG1 := hG.f (fun a i h => a3 a i (by omega)) a4
  have hF1 := hF.f (S' := S1) (fun i => a3 62 i (by decide))
  obtain ⟨v, b1, _, b3⟩ := c_enL (r := r) (u := u) hw hG1 hF1 a2 hr hu (d + 1) 0 (2 ^ (rv A b (A 6 0).toNat).length) 0 999999 (-1) none none (by omega) (by omega) (by decide) (Or.inl ⟨rfl, fun m' h => by omega⟩)
  refine ⟨v, S1, ?_, b3, a3, a4⟩
  rw [zx_45, a1, clv_v, nm1, iI_n]
  exact b1
end EN2
theorem o_ends (a c e : Int32) : OpW 205 171 [.int a, .int c, .int e] := by
  intro S ⟨p, A, hC, hM, hw⟩
  obtain ⟨v, h1, h2, rfl⟩ := iI_of a
  obtain ⟨t, h5, h6, rfl⟩ := iI_of c
  obtain ⟨u, h3, h4, rfl⟩ := iI_of e
  have hr2 := hw.r
  by_cases q1 : 0 ≤ v ∧ v < A 3 0
  · obtain ⟨r, rfl, k1⟩ := okR.n q1
    by_cases q2 : 0 ≤ t ∧ t < A 2 0
    · obtain ⟨b, rfl, k2⟩ := okB.n q2
      by_cases q3 : 0 ≤ u ∧ u ≤ 1
      · have hu : u = 0 ∨ u = 1 := by omega
        obtain ⟨S1, a1, a2, a3, a4, a5⟩ := c_gather hw hC k2 994
        obtain ⟨x, S2, b1, b2, b3, b4⟩ := c_en (r := r) (u := u) hw a2 a3 (by omega) hu 994
        have hG2 := a2.f (fun a i h => b3 a i (by omega)) b4
        have hx := iE_v hw (by omega) hu b2
        refine opW_mk (cm := 90) (o := some x) (p' := p) (A' := A) (S1 := S2) (fun _ _ e => w_205 e) (fun _ e => w_205x e) hw hM ?_ (fC_g (fun a i h => (b3 a i (by omega)).trans (a4 a i h)) (b4.trans a5)) hG2.1 hw (fun S3 h => ?_)
        · rw [zx_90 998, rqR1 hC hw k1 997, clv_v, rqB1 hC hw k2 997, clv_v, if_neg (by rw [iI_0, iI_lt h3 h4 (by decide) (by decide)]; omega), iI_n 1, if_pos (by rw [iI_le h3 h4 (by decide) (by decide)]; omega), zq_90_30, hC.p1, cond_false, hC.p2, a1, clv_v]
          rcases hu with rfl | rfl
          · rw [if_neg (by decide +kernel), zq_90_60, zq_90_61, show nI 0 = iI 0 from rfl, b1, cli_i]
            rfl
          · rw [if_pos (by rfl), zq_90_61, show nI 1 = iI 1 from rfl, b1, cli_i]
            rfl
        · have h0 : MI A (z_w1 S3.1 70 1 (nI 0), S3.2) := h.code hw
          obtain ⟨S4, c1, c2, c3, c4⟩ := m_wysA h0 hw k2 999 (by decide)
          refine ⟨S4, ?_, (fM_w1 (S := S3) (a := 70) (i := 1) (v := nI 0) (by decide) (by decide)).tr (fM_Y c4), h0.fY hw c4, ?_⟩
          · rw [zx_171 999, isR1 h0 hw k1 997, cli_i, if_neg n10, isB1 h0 hw k2 997, cli_i, if_neg n10, if_neg (by rw [iI_0, iI_lt h3 h4 (by decide) (by decide)]; omega), iI_n 1, if_pos (by rw [iI_le h3 h4 (by decide) (by decide)]; omega), zq_171_36, nm1, c1, clv_v, c2.1]
            have hlW := wy_l (b := b) hw
            have hrl : (wyA A b).reverse.length = (wyA A b).length := List.length_reverse
            by_cases q4 : (wyA A b).reverse = []
            · rw [q4, if_pos (by rfl), zq_171_72, hx.1 q4]
              rfl
            · have hne : (wyA A b).reverse.length ≠ 0 := fun e => q4 (List.length_eq_zero_iff.mp e)
              have hT := c2.2.2 q4 r (by omega)
              rw [if_neg (by rw [iI_0, iI_eq (by omega) (by omega) (by decide) (by decide)]; omega), zq_171_53, hx.2 q4]
              rcases hu with rfl | rfl
              · rw [if_pos (by rfl), ixN (show r < 8 by omega) (by decide), cond_true, tN (by omega), hT.1, zq_171_72, if_pos rfl]
                rfl
              · rw [if_neg n10, zq_171_66, ixN (show r < 8 by omega) (by decide), cond_true, tN (by omega), hT.2, zq_171_72, if_neg (by decide)]
                rfl
          · rw [c4.1 70 1 (by decide) (by decide)]
            dsimp only
            rw [z_w1_r, if_pos ⟨rfl, rfl⟩]
            rfl
      · refine opW_mk (cm := 90) (o := none) (p' := p) (A' := A) (S1 := S) (fun _ _ e => w_205 e) (fun _ e => w_205x e) hw hM ?_ (fC.rf S) hC hw (fun S2 h => mQ_same hw h ?_)
        · rw [zx_90 998, rqR1 hC hw k1 997, clv_v, rqB1 hC hw k2 997, clv_v]
          by_cases q4 : u < 0
          · rw [if_pos (by rw [iI_0, iI_lt h3 h4 (by decide) (by decide)]; omega), zq_90_19]
            rfl
          · rw [if_neg (by rw [iI_0, iI_lt h3 h4 (by decide) (by decide)]; omega), iI_n 1, if_neg (by rw [iI_le h3 h4 (by decide) (by decide)]; omega), zq_90_19]
            rfl
        · have h0 : MI A (z_w1 S2.1 70 1 (nI 0), S2.2) := h.code hw
          rw [zx_171 999, isR1 h0 hw k1 997, cli_i, if_neg n10, isB1 h0 hw k2 997, cli_i, if_neg n10]
          by_cases q4 : u < 0
          · rw [if_pos (by rw [iI_0, iI_lt h3 h4 (by decide) (by decide)]; omega), zq_171_30, zx_111 998, cli_i, z_w1_w1]
            rfl
          · rw [if_neg (by rw [iI_0, iI_lt h3 h4 (by decide) (by decide)]; omega), iI_n 1, if_neg (by rw [iI_le h3 h4 (by decide) (by decide)]; omega), zq_171_30, zx_111 998, cli_i, z_w1_w1]
            rfl
    · refine opW_mk (cm := 90) (o := none) (p' := p) (A' := A) (S1 := S) (fun _ _ e => w_205 e) (fun _ e => w_205x e) hw hM ?_ (fC.rf S) hC hw (fun S2 h => mQ_same hw h ?_)
      · rw [zx_90 998, rqR1 hC hw k1 997, clv_v, rqB0 hC hw h5 h6 q2 997, clv_x, hnd_0]
        rfl
      · have h0 : MI A (z_w1 S2.1 70 1 (nI 0), S2.2) := h.code hw
        rw [zx_171 999, isR1 h0 hw k1 997, cli_i, if_neg n10, isB0 h0 hw h5 h6 q2 997, cli_i, if_pos z00, zq_171_30, zx_111 998, cli_i, z_w1_w1]
        rfl
  · refine opW_mk (cm := 90) (o := none) (p' := p) (A' := A) (S1 := S) (fun _ _ e => w_205 e) (fun _ e => w_205x e) hw hM ?_ (fC.rf S) hC hw (fun S2 h => mQ_same hw h ?_)
    · rw [zx_90 998, rqR0 hC hw h1 h2 q1 997, clv_x, hnd_0]
      rfl
    · have h0 : MI A (z_w1 S2.1 70 1 (nI 0), S2.2) := h.code hw
      rw [zx_171 999, isR0 h0 hw h1 h2 q1 997, cli_i, if_pos z00, zq_171_30, zx_111 998, cli_i, z_w1_w1]
      rfl
