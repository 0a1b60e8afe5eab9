theorem rbn0 : z_rb (some .boolean) (nI 0) = true := rb_0
theorem rbn1 : z_rb (some .boolean) (nI 1) = true := rb_1
/-! read -/
section RED
variable {p : Nat} {A : aS} {S : z_St}
theorem m_rO (h : MI A S) (hw : wf A) {b r P : Nat} (hb : (b : Int) < A 2 0) (hr : (r : Int) < A 3 0) (hP : A 11 b = P) (d z : Nat) : ∀ (j i n : Nat), i + j = P → 3 * j + 2 ≤ n → z_R150 (d + 2) n 5 z [some (.ref 70), some (.int (iI r)), some (.int (iI b)), some (.int (iI (fb_ct (rd A b r) i : Int))), some (.int (iI ((i + 1 : Nat) : Int)))] [] S = some (.inl (some (.int (iI (fb_ct (rd A b r) P : Int)))), S) := by
  have h1 := hw.b
  have hg := hw.pg hb
  intro j
  induction j with
  | zero =>
    intro i n hi hn
    obtain ⟨n, rfl⟩ : ∃ m, n = m + 2 := ⟨n - 2, by omega⟩
    have e : i = P := by omega
    subst e
    rw [zq_150_5, ixN (by omega) (by decide), cond_true, tN (by omega), m_11 h hb, hP, if_pos (by rw [iI_lt (by omega) (by omega) (by omega) (by omega)]; omega), zq_150_41]
  | succ j ih =>
    intro i n hi hn
    obtain ⟨n, rfl⟩ : ∃ m, n = m + 3 := ⟨n - 3, by omega⟩
    have hl := fb_ct_le (rd A b r) i
    have e2 : ((i + 1 : Nat) : Int) + ((1 : Nat) : Int) = ((i + 1 + 1 : Nat) : Int) := by omega
    rw [zq_150_5, ixN (by omega) (by decide), cond_true, tN (by omega), m_11 h hb, hP, if_neg (by rw [iI_lt (by omega) (by omega) (by omega) (by omega)]; omega), m_hasR h hw hb hr (by omega), cli_i]
    by_cases q : rd A b r i = true
    · rw [if_neg (by rw [b01]; exact fun g => g q), zq_150_33, iI_n, iI_add, iI_add]
      have e1 : (fb_ct (rd A b r) i : Int) + ((1 : Nat) : Int) = (fb_ct (rd A b r) (i + 1) : Int) := by
        have : fb_ct (rd A b r) (i + 1) = fb_ct (rd A b r) i + 1 := by rw [fb_ct_succ, q]; rfl
        omega
      rw [e1, e2]
      exact ih (i + 1) (n + 1) (by omega) (by omega)
    · rw [if_pos (by rw [b01]; exact q), zq_150_32, zq_150_33, iI_n, iI_n, iI_add, iI_add]
      have e1 : (fb_ct (rd A b r) i : Int) + ((0 : Nat) : Int) = (fb_ct (rd A b r) (i + 1) : Int) := by
        have : fb_ct (rd A b r) (i + 1) = fb_ct (rd A b r) i := by
          rw [fb_ct_succ, if_neg q]
          rfl
        omega
      rw [e1, e2]
      exact ih (i + 1) n (by omega) (by omega)
theorem m_readOf (h : MI A S) (hw : wf A) {b r : Nat} (hb : (b : Int) < A 2 0) (hr : (r : Int) < A 3 0) (d : Nat) : z_ew (d + 3) 150 [.ref 70, .int (iI r), .int (iI b)] S = some (.inl (some (.int (iI (A 24 (8 * b + r))))), S) := by
  have h1 := hw.b
  have h2 := hw.r
  have hg := hw.pg hb
  have e := m_rO h hw hb hr (P := (A 11 b).toNat) (by omega) d 0 (A 11 b).toNat 0 999999 (by omega) (by omega)
  rw [zx_150, (hw.cl (j := 8 * b + r) (by omega)).2.2.2.1, ← rct_p hw hb hr (P := (A 11 b).toNat) (by omega)]
  exact e
theorem wlk_b (f : Nat → Bool) : ∀ j i, i ≤ wlk f j i ∧ wlk f j i ≤ i + j
  | 0, i => ⟨Nat.le_refl _, Nat.le_refl _⟩
  | j + 1, i => by
    show i ≤ (if f i = true then wlk f j (i + 1) else i) ∧ (if f i = true then wlk f j (i + 1) else i) ≤ i + (j + 1)
    by_cases q : f i = true
    · rw [if_pos q]
      have := wlk_b f j (i + 1)
      omega
    · rw [if_neg q]; omega
theorem m_iR (h : MI A S) (hw : wf A) {b r P : Nat} (hb : (b : Int) < A 2 0) (hr : (r : Int) < A 3 0) (hP : A 11 b = P) (d z : Nat) : ∀ (j i n : Nat), i + j = P → j + 2 ≤ n → z_R156 (d + 2) n 2 z [some (.ref 70), some (.int (iI r)), some (.int (iI b)), some (.int (iI i))] [] S = some (.inl (some (.int (iI (wlk (rd A b r) j i : Int)))), S) := by
  have h1 := hw.b
  have hg := hw.pg hb
  intro j
  induction j with
  | zero =>
    intro i n hi hn
    obtain ⟨n, rfl⟩ : ∃ m, n = m + 2 := ⟨n - 2, by omega⟩
    rw [zq_156_2, ixN (by omega) (by decide), cond_true, tN (by omega), m_11 h hb, hP, if_pos (by rw [iI_le (by omega) (by omega) (by omega) (by omega)]; omega), zq_156_30]
    rfl
  | succ j ih =>
    intro i n hi hn
    obtain ⟨n, rfl⟩ : ∃ m, n = m + 2 := ⟨n - 2, by omega⟩
    have e2 : (i : Int) + ((1 : Nat) : Int) = ((i + 1 : Nat) : Int) := by omega
    rw [zq_156_2, ixN (by omega) (by decide), cond_true, tN (by omega), m_11 h hb, hP, if_neg (by rw [iI_le (by omega) (by omega) (by omega) (by omega)]; omega), iI_n, iI_add, e2, m_hasR h hw hb hr (by omega), cli_i]
    show _ = some (Sum.inl (some (Value.int (iI ((if rd A b r i = true then wlk (rd A b r) j (i + 1) else i : Nat) : Int)))), S)
    by_cases q : rd A b r i = true
    · rw [if_neg (by rw [b01]; exact fun g => g q), if_pos q]
      exact ih (i + 1) (n + 1) (by omega) (by omega)
    · rw [if_pos (by rw [b01]; exact q), zq_156_30, if_neg q]
theorem c_iR (h : CI p A S) {b r P : Nat} (hb : b < 10) (hr : r < 8) (hP : P ≤ 400) (d z : Nat) : ∀ (j i n : Nat), i + j = P → j + 2 ≤ n → z_R10 (d + 1) n 2 z [some (.ref 24), some (.int (iI ((r * 10 + b : Nat) : Int))), some (.int (iI P)), some (.int (iI ((i + 1 : Nat) : Int)))] [] S = some (.inl (some (.int (iI (wlk (rd A b r) j i : Int)))), S) := by
  have fin : ∀ (i n : Nat) (x y w : Option Value), z_R10 (d + 1) (n + 1) 22 z [x, y, w, some (.int (iI ((i + 1 : Nat) : Int)))] [] S = some (.inl (some (.int (iI (i : Int)))), S) := by
    intro i n x y w
    rw [zq_10_22, iI_n, iI_sub, show ((i + 1 : Nat) : Int) - ((1 : Nat) : Int) = i by omega]
  intro j
  induction j with
  | zero =>
    intro i n hi hn
    obtain ⟨n, rfl⟩ : ∃ m, n = m + 2 := ⟨n - 2, by omega⟩
    rw [zq_10_2, if_pos (by rw [iI_lt (by omega) (by omega) (by omega) (by omega)]; omega), fin]
    rfl
  | succ j ih =>
    intro i n hi hn
    obtain ⟨n, rfl⟩ : ∃ m, n = m + 2 := ⟨n - 2, by omega⟩
    rw [zq_10_2, if_neg (by rw [iI_lt (by omega) (by omega) (by omega) (by omega)]; omega), c_isR h hb hr (by omega), cli_i]
    show _ = some (Sum.inl (some (Value.int (iI ((if rd A b r i = true then wlk (rd A b r) j (i + 1) else i : Nat) : Int)))), S)
    by_cases q : rd A b r i = true
    · rw [if_neg (by rw [b01]; exact fun g => g q), if_pos q, iI_n, iI_add, show ((i + 1 : Nat) : Int) + ((1 : Nat) : Int) = ((i + 1 + 1 : Nat) : Int) by omega]
      exact ih (i + 1) (n + 1) (by omega) (by omega)
    · rw [if_pos (by rw [b01]; exact q), fin, if_neg q]
def q_read (A : aS) (r b w : Int) : Option Int := if (0 ≤ r ∧ r < A 3 0 ∧ 0 ≤ b ∧ b < A 2 0) ∧ 0 ≤ w ∧ w ≤ 3 then some (if w = 0 then A 24 (8 * b + r).toNat else if w = 1 then ((wlk (rd A b.toNat r.toNat) (A 11 b.toNat).toNat 0 : Nat) : Int) else if w = 2 then (if rd A b.toNat r.toNat (A 11 b.toNat - 1).toNat = true ∧ 10 * A 24 (8 * b + r).toNat < A 11 b.toNat then 1 else 0) else A 25 (8 * b + r).toNat) else none
theorem q_read1 {r b : Nat} {w : Int} (hr : (r : Int) < A 3 0) (hb : (b : Int) < A 2 0) (h0 : 0 ≤ w) (h3 : w ≤ 3) : q_read A r b w = some (if w = 0 then A 24 (8 * b + r) else if w = 1 then ((wlk (rd A b r) (A 11 b).toNat 0 : Nat) : Int) else if w = 2 then (if rd A b r (A 11 b - 1).toNat = true ∧ 10 * A 24 (8 * b + r) < A 11 b then 1 else 0) else A 25 (8 * b + r)) := by
  have e1 : ((b : Int)).toNat = b := Int.toNat_natCast b
  have e2 : ((r : Int)).toNat = r := Int.toNat_natCast r
  unfold q_read
  rw [pt, e1, e2]
  exact if_pos (by omega)
theorem o_read (a b c : Int32) : OpW 199 157 [.int a, .int b, .int c] := by
  intro S ⟨p, A, hC, hM, hw⟩
  obtain ⟨r, h1, h2, rfl⟩ := iI_of a
  obtain ⟨b, h3, h4, rfl⟩ := iI_of b
  obtain ⟨w, h5, h6, rfl⟩ := iI_of c
  have hb := hw.b
  have hr := hw.r
  obtain ⟨l1, -⟩ := hC.pl
  refine opW_mk (cm := 84) (o := q_read A r b w) (fun _ _ e => w_199 e) (fun _ e => w_199x e) hw hM (S1 := S) ?_ (fC.rf S) hC hw (fun S2 h => mQ_same hw h ?_)
  · rw [zx_84 998]
    by_cases q1 : 0 ≤ r ∧ r < A 3 0
    · obtain ⟨r, rfl, k1⟩ := okR.n q1
      rw [rqR1 hC hw k1 997, clv_v]
      by_cases q2 : 0 ≤ b ∧ b < A 2 0
      · obtain ⟨b, rfl, k2⟩ := okB.n q2
        have hg := hw.pg k2
        have hc := hw.cl (j := 8 * b + r) (by omega)
        have hct : rct A (8 * b + r) ≤ 400 := fb_ct_le _ _
        rw [rqB1 hC hw k2 997, clv_v, cel, cli_i]
        by_cases g : w < 0 ∨ 3 < w
        · rw [sw_out (iI_i h5 h6) g]
          show z_R84 998 999999 116 0 _ _ _ = _
          rw [zq_84_116, q_read, if_neg (by omega)]
          rfl
        · have eq := q_read1 (w := w) k1 k2 (by omega) (by omega)
          have g2 : w = 0 ∨ w = 1 ∨ w = 2 ∨ w = 3 := by omega
          rcases g2 with rfl | rfl | rfl | rfl
          · rw [sw_in (iI_i h5 h6) g rfl]
            show z_R84 998 999999 48 0 _ _ _ = _
            rw [zq_84_48, ixN (by omega) (by decide), cond_true, tN (by omega), c_24 hC (by omega) (by omega), eq]
            rfl
          · rw [sw_in (iI_i h5 h6) g rfl]
            show z_R84 998 999999 59 0 _ _ _ = _
            have e7 := c_iR hC (b := b) (r := r) (P := (A 11 b).toNat) (by omega) (by omega) (by omega) 996 0 (A 11 b).toNat 0 999999 (by omega) (by omega)
            have e8 : A 11 b = ((A 11 b).toNat : Int) := by omega
            rw [zq_84_59, hC.p1, hC.p2, hC.p3, hC.px (by decide) (by decide) l1 (by omega) (by decide), tN (by omega), c_11 hC k2, zx_10 997, eq, e8]
            rw [show (((A 11 b).toNat : Int)).toNat = (A 11 b).toNat by omega]
            have e9 : nI 1 = iI ((0 + 1 : Nat) : Int) := iI_n 1
            rw [e9, e7]
            rfl
          · rw [sw_in (iI_i h5 h6) g rfl]
            show z_R84 998 999999 78 0 _ _ _ = _
            obtain ⟨q, hq⟩ : ∃ q : Nat, A 11 b = ((q + 1 : Nat) : Int) := ⟨(A 11 b - 1).toNat, by omega⟩
            rw [zq_84_78, hC.p1, hC.p2, hC.p3, hC.px (by decide) (by decide) l1 (by omega) (by decide), tN (by omega), c_11 hC k2, zx_11 997, eq, hq, c_isR hC (by omega) (by omega) (by omega), cli_i]
            have eq1 : (((q + 1 : Nat) : Int) - 1).toNat = q := by omega
            rw [eq1]
            by_cases g1 : rd A b r q = true
            · rw [if_neg (by rw [b01]; exact fun g => g g1), ixN (by omega) (by decide), cond_true, tN (by omega), c_24 hC (by omega) (by omega), iI_n 10, iI_mul]
              by_cases g2 : ((q + 1 : Nat) : Int) ≤ ((10 : Nat) : Int) * A 24 (8 * b + r)
              · rw [if_pos (by rw [iI_le (by omega) (by omega) (by omega) (by omega)]; exact g2), zq_11_26, zq_11_27, rbn0]
                simp only [cond_true, cond_false]
                rw [cli_i, if_pos nI_0, zq_84_103, zq_84_104]
                show _ = some (rC 0 (some (if rd A b r q = true ∧ 10 * A 24 (8 * b + r) < ((q + 1 : Nat) : Int) then 1 else 0)), S)
                rw [if_neg (by omega)]
                rfl
              · rw [if_neg (by rw [iI_le (by omega) (by omega) (by omega) (by omega)]; exact g2), zq_11_27, rbn1]
                simp only [cond_true, cond_false]
                rw [cli_i, if_neg (show ¬ nI 1 = 0 from n10), zq_84_104]
                show _ = some (rC 0 (some (if rd A b r q = true ∧ 10 * A 24 (8 * b + r) < ((q + 1 : Nat) : Int) then 1 else 0)), S)
                rw [if_pos ⟨g1, by omega⟩]
                rfl
            · rw [if_pos (by rw [b01]; exact g1), zq_11_26, zq_11_27, rbn0]
              simp only [cond_true, cond_false]
              rw [cli_i, if_pos nI_0, zq_84_103, zq_84_104]
              show _ = some (rC 0 (some (if rd A b r q = true ∧ 10 * A 24 (8 * b + r) < ((q + 1 : Nat) : Int) then 1 else 0)), S)
              rw [if_neg (fun g => g1 g.1)]
              rfl
          · rw [sw_in (iI_i h5 h6) g rfl]
            show z_R84 998 999999 105 0 _ _ _ = _
            rw [zq_84_105, ixN (by omega) (by decide), cond_true, tN (by omega), c_25 hC (by omega) (by omega), eq]
            rfl
      · rw [rqB0 hC hw h3 h4 q2 997, clv_x, hnd_0, q_read, if_neg (by omega)]
        rfl
    · rw [rqR0 hC hw h1 h2 q1 997, clv_x, hnd_0, q_read, if_neg (by omega)]
      rfl
  · have h0 : MI A (z_w1 S2.1 70 1 (nI 0), S2.2) := h.code hw
    rw [zx_157 999]
    by_cases q1 : 0 ≤ r ∧ r < A 3 0
    · obtain ⟨r, rfl, k1⟩ := okR.n q1
      rw [isR1 h0 hw k1 997, cli_i, if_neg n10]
      by_cases q2 : 0 ≤ b ∧ b < A 2 0
      · obtain ⟨b, rfl, k2⟩ := okB.n q2
        have hg := hw.pg k2
        have hc := hw.cl (j := 8 * b + r) (by omega)
        have hct : rct A (8 * b + r) ≤ 400 := fb_ct_le _ _
        rw [isB1 h0 hw k2 997, cli_i, if_neg n10, zq_157_27]
        by_cases g : w < 0 ∨ 3 < w
        · rw [sw_out (iI_i h5 h6) g]
          show z_R157 999 999998 124 0 _ _ _ = _
          rw [zq_157_124, zx_111 998, cli_i, z_w1_w1, q_read, if_neg (by omega)]
          rfl
        · have eq := q_read1 (w := w) k1 k2 (by omega) (by omega)
          have g2 : w = 0 ∨ w = 1 ∨ w = 2 ∨ w = 3 := by omega
          rcases g2 with rfl | rfl | rfl | rfl
          · rw [sw_in (iI_i h5 h6) g rfl]
            show z_R157 999 999998 60 0 _ _ _ = _
            rw [zq_157_60, m_readOf h0 hw k2 k1 996, cli_i, eq]
            rfl
          · rw [sw_in (iI_i h5 h6) g rfl]
            show z_R157 999 999998 67 0 _ _ _ = _
            have e7 := m_iR h0 hw k2 k1 (P := (A 11 b).toNat) (by omega) 996 0 (A 11 b).toNat 0 999999 (by omega) (by omega)
            rw [zq_157_67, zx_156 998, eq]
            have e9 : nI 0 = iI ((0 : Nat) : Int) := iI_n 0
            have e10 : z_R156 998 999999 2 0 [some (.ref 70), some (.int (iI r)), some (.int (iI b)), some (.int (nI 0))] [] (z_w1 S2.1 70 1 (nI 0), S2.2) = some (.inl (some (.int (iI (wlk (rd A b r) (A 11 b).toNat 0 : Int)))), (z_w1 S2.1 70 1 (nI 0), S2.2)) := e7
            rw [e10]
            rfl
          · rw [sw_in (iI_i h5 h6) g rfl]
            show z_R157 999 999998 74 0 _ _ _ = _
            obtain ⟨q, hq⟩ : ∃ q : Nat, A 11 b = ((q + 1 : Nat) : Int) := ⟨(A 11 b - 1).toNat, by omega⟩
            have eq1 : (((q + 1 : Nat) : Int) - 1).toNat = q := by omega
            rw [zq_157_74, ixN (by omega) (by decide), cond_true, tN (by omega), m_11 h0 k2, eq, hq, m_hasR h0 hw k2 k1 (by omega), cli_i, eq1]
            by_cases g1 : rd A b r q = true
            · rw [if_neg (by rw [b01]; exact fun g => g g1), m_readOf h0 hw k2 k1 996, cli_i, cond_true, m_11 h0 k2, hq, iI_n 10, iI_mul]
              by_cases g2 : ((q + 1 : Nat) : Int) ≤ ((10 : Nat) : Int) * A 24 (8 * b + r)
              · rw [if_pos (by rw [iI_le (by omega) (by omega) (by omega) (by omega)]; exact g2), zq_157_111, zq_157_112]
                show _ = some (Sum.inl (some (Value.int (iI (rM (some (if rd A b r q = true ∧ 10 * A 24 (8 * b + r) < ((q + 1 : Nat) : Int) then 1 else 0)))))), _)
                rw [if_neg (by omega)]
                rfl
              · rw [if_neg (by rw [iI_le (by omega) (by omega) (by omega) (by omega)]; exact g2), zq_157_112]
                show _ = some (Sum.inl (some (Value.int (iI (rM (some (if rd A b r q = true ∧ 10 * A 24 (8 * b + r) < ((q + 1 : Nat) : Int) then 1 else 0)))))), _)
                rw [if_pos ⟨g1, by omega⟩]
                rfl
            · rw [if_pos (by rw [b01]; exact g1), zq_157_111, zq_157_112]
              show _ = some (Sum.inl (some (Value.int (iI (rM (some (if rd A b r q = true ∧ 10 * A 24 (8 * b + r) < ((q + 1 : Nat) : Int) then 1 else 0)))))), _)
              rw [if_neg (fun g => g1 g.1)]
              rfl
          · rw [sw_in (iI_i h5 h6) g rfl]
            show z_R157 999 999998 113 0 _ _ _ = _
            rw [zq_157_113, pai, cli_i, ixN (by omega) (by decide), cond_true, tN (by omega), m_25 h0 (by omega), eq]
            rfl
      · rw [isB0 h0 hw h3 h4 q2 997, cli_i, if_pos z00, zq_157_21, zx_111 998, cli_i, z_w1_w1, q_read, if_neg (by omega)]
        rfl
    · rw [isR0 h0 hw h1 h2 q1 997, cli_i, if_pos z00, zq_157_21, zx_111 998, cli_i, z_w1_w1, q_read, if_neg (by omega)]
      rfl
end RED
