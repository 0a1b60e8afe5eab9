/-! all ways told: the model's search -/
def pw (ws : List Nat) (W : List (List Nat)) : List (List Nat) := W.map (fun w => ws.reverse ++ w)
theorem pw_app (ws : List Nat) (a b : List (List Nat)) : pw ws (a ++ b) = pw ws a ++ pw ws b := List.map_append
theorem pw_c (ws : List Nat) (r : Nat) (W : List (List Nat)) : pw ws (W.map (fun w => r :: w)) = pw (r :: ws) W := by
  unfold pw
  rw [List.map_map]
  refine List.map_congr_left (fun w _ => ?_)
  show ws.reverse ++ r :: w = (r :: ws).reverse ++ w
  rw [List.reverse_cons, List.append_assoc]
  rfl
theorem pw_n (W : List (List Nat)) : pw [] W = W := by
  unfold pw
  simp
theorem prv_sg (ws ps : List Nat) (r l : Nat) : (fun x => prv x (r :: ws) (l :: ps)) = sg (fun x => prv x ws ps) r l := by
  funext x
  rw [prv_s]
  unfold sg
  by_cases e : r = x
  · rw [if_pos e, if_pos e.symm]
  · rw [if_neg e, if_neg (fun z => e z.symm)]
section WYS
variable {A : aS} {S : z_St}
theorem TT.f {row : List Nat} {R : Nat} {Wd : List (List Nat)} {S' : z_St} (h : TT A row R Wd S) (h70 : S'.1 70 56 = S.1 70 56) (hf : ∀ a i, a = 103 ∨ a = 104 ∨ a = 105 ∨ a = 106 → S'.1 a i = S.1 a i) : TT A row R Wd S' := by
  refine ⟨h70.trans h.1, fun j hj => ?_, fun q r hr => ?_⟩
  · rw [hf 103 _ (by omega), hf 104 _ (by omega)]
    exact h.2.1 j hj
  · rw [hf 105 _ (by omega), hf 106 _ (by omega)]
    exact h.2.2 q r hr
theorem m_way {b N R : Nat} {row : List Nat} (hw : wf A) (hN : A 4 0 = N) (hR : A 3 0 = R) (hb : (b : Int) < A 2 0) (hro : RO A row) : ∀ (rest ps ws : List Nat) (S : z_St) (Wd : List (List Nat)) (D : Nat), row = ps.reverse ++ rest → ws.length = ps.length → (∀ w, w ∈ ws → w < 8) → MI A S → S.1 70 55 = iI (row.length : Int) → stk (S.1 101) (row.reverse.map f0) → stk (S.1 102) (ws.map f0) → w8 row.length Wd → TT A row R Wd S → Wd.length + 8 ^ rest.length ≤ 262144 → rest.length + 4 ≤ D → ∃ S', z_ew D 167 [.ref 70, .int (iI (b : Int)), .int (iI (ps.length : Int))] S = some (.inl none, S') ∧ TT A row R ((pw ws (wy (cK A b N) (List.range R) rest (fun r => prv r ws ps))).reverse ++ Wd) S' ∧ w8 row.length ((pw ws (wy (cK A b N) (List.range R) rest (fun r => prv r ws ps))).reverse ++ Wd) ∧ stk (S'.1 102) (ws.map f0) ∧ frX S S' := by
  have hr2 := hw.r
  have h7 := hro.1
  intro rest
  induction rest with
  | nil =>
    intro ps ws S Wd D hrow hlen h8 hM h55 hs hs2 hW hT hB hD
    have hD : 0 + 4 ≤ D := hD
    have hB : Wd.length + 1 ≤ 262144 := hB
    obtain ⟨D, rfl⟩ : ∃ m, D = m + 4 := ⟨D - 4, by omega⟩
    have hpl : ps.length = row.length := by rw [hrow, List.append_nil, List.length_reverse]
    obtain ⟨S', a1, a2, a3⟩ := m_tt hw hM hR hro h55 hs (hlen.trans hpl) hs2 h8 hW (by omega) hT (D + 1)
    refine ⟨S', ?_, ?_, ?_, stk_up _ hs2 (fun i _ => a3.1 102 i (by decide) (by decide) (by decide) (by decide) (Or.inl (by decide))), fun a i _ h1 h2 h3 h4 h5 => a3.1 a i h1 h2 h3 h4 h5, a3.2⟩
    · rw [zx_167, h55, hpl, if_pos rfl, a1, clv_v]
    · show TT A row R ((ws.reverse ++ []) :: Wd) S'
      rw [List.append_nil]
      exact a2
    · show w8 row.length ((ws.reverse ++ []) :: Wd)
      rw [List.append_nil]
      intro w hw' j hj
      rcases List.mem_cons.mp hw' with rfl | hw'
      · rw [List.getD_eq_getElem?_getD, List.getElem?_eq_getElem (by rw [List.length_reverse, hlen, hpl]; exact hj)]
        exact h8 _ (List.mem_reverse.mp (List.getElem_mem _))
      · exact hW w hw' j hj
  | cons l t ih =>
    intro ps ws S Wd D hrow hlen h8 hM h55 hs hs2 hW hT hB hD
    have hD : t.length + 1 + 4 ≤ D := hD
    obtain ⟨D, rfl⟩ : ∃ m, D = m + 4 := ⟨D - 4, by omega⟩
    have hrl : row.length = ps.length + (t.length + 1) := by
      rw [hrow, List.length_append, List.length_reverse]
      rfl
    have hrr : row.reverse = t.reverse ++ l :: ps := by
      rw [hrow, List.reverse_append, List.reverse_reverse, List.reverse_cons, List.append_assoc]
      rfl
    have hp := hro.2.2
    rw [hrow] at hp
    have hp2 := (List.pairwise_append.mp hp).2.2
    have hl : (l : Int) < A 6 0 := hro.2.1 l (by rw [hrow]; exact List.mem_append_right _ List.mem_cons_self)
    have hps : ∀ o, o ∈ ps → (o : Int) < A 6 0 ∧ A 33 o ≤ A 33 l := fun o ho => ⟨hro.2.1 o (by rw [hrow]; exact List.mem_append_left _ (List.mem_reverse.mpr ho)), (hp2 o (List.mem_reverse.mpr ho) l List.mem_cons_self).2⟩
    have inner : ∀ (k r n : Nat) (S : z_St) (Wd : List (List Nat)), r + k = R → 4 * k + 2 ≤ n → MI A S → S.1 70 55 = iI (row.length : Int) → stk (S.1 101) (row.reverse.map f0) → stk (S.1 102) (ws.map f0) → w8 row.length Wd → TT A row R Wd S → Wd.length + k * 8 ^ t.length ≤ 262144 → ∃ S', z_R167 (D + 3) n 15 0 [some (.ref 70), some (.int (iI (b : Int))), some (.int (iI (ps.length : Int))), some (.int (iI (r : Int)))] [] S = some (.inl none, S') ∧ TT A row R ((pw ws ((List.range' r k).flatMap (fun r => if cK A b N r (prv r ws ps) l = true then (wy (cK A b N) (List.range R) t (sg (fun r => prv r ws ps) r l)).map (fun w => r :: w) else []))).reverse ++ Wd) S' ∧ w8 row.length ((pw ws ((List.range' r k).flatMap (fun r => if cK A b N r (prv r ws ps) l = true then (wy (cK A b N) (List.range R) t (sg (fun r => prv r ws ps) r l)).map (fun w => r :: w) else []))).reverse ++ Wd) ∧ stk (S'.1 102) (ws.map f0) ∧ frX S S' := by
      intro k
      induction k with
      | zero =>
        intro r n S Wd hr hn hM h55 hs hs2 hW hT hB
        obtain ⟨n, rfl⟩ : ∃ m, n = m + 2 := ⟨n - 2, by omega⟩
        refine ⟨S, ?_, hT, hW, hs2, fun _ _ _ _ _ _ _ _ => rfl, rfl⟩
        rw [zq_167_15, m_3 hM, hR, if_pos (by rw [iI_le (by omega) (by omega) (by omega) (by omega)]; omega), zq_167_57]
      | succ k ihk =>
        intro r n S Wd hr hn hM h55 hs hs2 hW hT hB
        obtain ⟨n, rfl⟩ : ∃ m, n = m + 3 := ⟨n - 3, by omega⟩
        have e2 : (r : Int) + ((1 : Nat) : Int) = ((r + 1 : Nat) : Int) := by omega
        have hB' : Wd.length + (k * 8 ^ t.length + 8 ^ t.length) ≤ 262144 := by
          rw [Nat.add_mul, Nat.one_mul] at hB
          exact hB
        have hsr : stk (S.1 101) (t.reverse.map f0 ++ f0 l :: ps.map f0) := by
          rw [hrr, List.map_append] at hs
          exact hs
        have hat : S.1 101 ps.length = iI (l : Int) := by
          have := stk_at _ hsr
          rw [List.length_map] at this
          exact this
        rw [zq_167_15, m_3 hM, hR, if_neg (by rw [iI_le (by omega) (by omega) (by omega) (by omega)]; omega), m_mh hM hw hN (show (r : Int) < A 3 0 by omega) hb hl hps hlen (by omega) hat hs2 (stk_suf _ hsr).2 h8 D, cli_i, List.range'_succ, List.flatMap_cons]
        by_cases hK : cK A b N r (prv r ws ps) l = true
        · rw [if_pos hK, hK, if_neg (by decide +kernel), zq_167_36, ixN (show ps.length < 6 by omega) (by decide), cond_true, tN (show ps.length < 2147483648 by omega)]
          have w1 : ∀ a i, a ≠ 102 → z_w1 S.1 102 ps.length (iI (r : Int)) a i = S.1 a i := by
            intro a i ha
            rw [z_w1_r, if_neg (fun z => ha z.1)]
          have fx : frX S (z_w1 S.1 102 ps.length (iI (r : Int)), S.2) := ⟨fun a i h1 _ _ _ _ _ => w1 a i h1, rfl⟩
          have hlw : (wy (cK A b N) (List.range R) t (fun x => prv x (r :: ws) (l :: ps))).length ≤ 8 ^ t.length := by
            refine Nat.le_trans (nw_le _ _ _ _) ?_
            rw [List.length_range]
            exact Nat.pow_le_pow_left (by omega) _
          obtain ⟨S2, a1, a2, a3, a4, a5⟩ := ih (l :: ps) (r :: ws) (z_w1 S.1 102 ps.length (iI (r : Int)), S.2) Wd (D + 3) (by rw [hrow, List.reverse_cons, List.append_assoc]; rfl) (by rw [List.length_cons, List.length_cons, hlen]) (fun w hw' => by
            rcases List.mem_cons.mp hw' with rfl | hw'
            · omega
            · exact h8 w hw') (hM.fX hw fx) ((w1 70 55 (by decide)).trans h55) (stk_up _ hs (fun i _ => w1 101 i (by decide))) ⟨by
              dsimp only
              rw [List.length_map, hlen, z_w1_r, if_pos ⟨rfl, rfl⟩]
              rfl, stk_up _ hs2 (fun i hi => by
              rw [List.length_map] at hi
              dsimp only
              rw [z_w1_r, if_neg (by omega)])⟩ hW (hT.f (w1 70 56 (by decide)) (fun a i ha => w1 a i (by omega))) (by omega) (by omega)
          rw [prv_sg] at a2 a3 hlw
          have h55' : S2.1 70 55 = iI (row.length : Int) := (a5.1 70 55 (by decide) (by decide) (by decide) (by decide) (by decide) (Or.inr (by decide))).trans ((w1 70 55 (by decide)).trans h55)
          have hs' : stk (S2.1 101) (row.reverse.map f0) := stk_up _ hs (fun i _ => (a5.1 101 i (by decide) (by decide) (by decide) (by decide) (by decide) (Or.inl (by decide))).trans (w1 101 i (by decide)))
          obtain ⟨S3, b1, b2, b3, b4, b5⟩ := ihk (r + 1) n S2 _ (by omega) (by omega) ((hM.fX hw fx).fX hw a5) h55' hs' a4.2 a3 a2 (by
            rw [List.length_append, List.length_reverse]
            unfold pw
            rw [List.length_map]
            omega)
          have hcat : ∀ X : List (List Nat), (pw ws ((wy (cK A b N) (List.range R) t (sg (fun r => prv r ws ps) r l)).map (fun w => r :: w) ++ X)).reverse ++ Wd = (pw ws X).reverse ++ ((pw (r :: ws) (wy (cK A b N) (List.range R) t (sg (fun r => prv r ws ps) r l))).reverse ++ Wd) := by
            intro X
            rw [pw_app, pw_c, List.reverse_append, List.append_assoc]
          refine ⟨S3, ?_, ?_, ?_, b4, (fx.tr a5).tr b5⟩
          · have e3 : iI (ps.length : Int) + nI 1 = iI (((l :: ps).length : Nat) : Int) := by
              rw [iI_n, iI_add]
              rfl
            rw [e3, a1, clv_v, zq_167_51, iI_n, iI_add, e2]
            exact b1
          · rw [hcat]
            exact b2
          · rw [hcat]
            exact b3
        · rw [if_neg hK, Bool.eq_false_iff.mpr hK, if_pos (by rfl), zq_167_51, iI_n, iI_add, e2]
          exact ihk (r + 1) (n + 1) S Wd (by omega) (by omega) hM h55 hs hs2 hW hT (Nat.le_trans (Nat.add_le_add_left (Nat.le_add_right _ _) _) hB')
    have hB2 : Wd.length + R * 8 ^ t.length ≤ 262144 := by
      have : R * 8 ^ t.length ≤ 8 * 8 ^ t.length := Nat.mul_le_mul_right _ (by omega)
      rw [List.length_cons, Nat.pow_succ] at hB
      omega
    obtain ⟨S', a1, a2, a3, a4, a5⟩ := inner R 0 999998 S Wd (by omega) (by omega) hM h55 hs hs2 hW hT hB2
    rw [← List.range_eq_range'] at a2 a3
    refine ⟨S', ?_, a2, a3, a4, a5⟩
    rw [zx_167, h55, if_neg (by rw [iI_eq (by omega) (by omega) (by omega) (by omega)]; omega), zq_167_13, iI_n]
    exact a1
theorem m_fil {b : Int32} (d z : Nat) : ∀ (k i n : Nat) (S : z_St) (x2 : Option Value), i + k = 24 → k + 1 ≤ n → ∃ S' n', n ≤ n' + k + 1 ∧ z_R168 d n 13 z [some (.ref 70), some (.int b), x2, some (.int (iI (i : Int)))] [] S = z_R168 d n' 41 z [some (.ref 70), some (.int b), none, some (.int (iI ((24 : Nat) : Int)))] [] S' ∧ (∀ j, i ≤ j → j < 24 → S'.1 103 j = iI 0 ∧ S'.1 104 j = iI 255) ∧ (∀ j, j < i → S'.1 103 j = S.1 103 j ∧ S'.1 104 j = S.1 104 j) ∧ (∀ a x, a ≠ 103 → a ≠ 104 → S'.1 a x = S.1 a x) ∧ S'.2 = S.2 := by
  intro k
  induction k with
  | zero =>
    intro i n S x2 hi hn
    obtain ⟨n, rfl⟩ : ∃ m, n = m + 1 := ⟨n - 1, by omega⟩
    have e : i = 24 := by omega
    subst e
    refine ⟨S, n, by omega, ?_, fun j h1 h2 => by omega, fun _ _ => ⟨rfl, rfl⟩, fun _ _ _ _ => rfl, rfl⟩
    rw [zq_168_13, if_pos (by rw [iI_n]; decide +kernel)]
  | succ k ih =>
    intro i n S x2 hi hn
    obtain ⟨n, rfl⟩ : ∃ m, n = m + 1 := ⟨n - 1, by omega⟩
    have e2 : (i : Int) + ((1 : Nat) : Int) = ((i + 1 : Nat) : Int) := by omega
    have w3 : ∀ a x, (a ≠ 103 ∧ a ≠ 104) ∨ x ≠ i → z_w1 (z_w1 S.1 103 i (nI 0)) 104 i (nI 255) a x = S.1 a x := by
      intro a x h1
      rw [z_w1_r, if_neg (by omega), z_w1_r, if_neg (by omega)]
    obtain ⟨S', n', a1, a2, a3, a4, a5, a6⟩ := ih (i + 1) n (z_w1 (z_w1 S.1 103 i (nI 0)) 104 i (nI 255), S.2) none (by omega) (by omega)
    refine ⟨S', n', by omega, ?_, fun j h1 h2 => ?_, fun j h1 => ?_, fun a x h1 h2 => (a5 a x h1 h2).trans (w3 a x (Or.inl ⟨h1, h2⟩)), a6⟩
    · rw [zq_168_13, iI_n 24, if_neg (by rw [iI_le (by omega) (by omega) (by omega) (by omega)]; omega), ixN (show i < 24 by omega) (by decide), cond_true, cond_true, tN (by omega), iI_n 1, iI_add, e2]
      exact a2
    · by_cases e : j = i
      · subst e
        rw [(a4 j (by omega)).1, (a4 j (by omega)).2]
        dsimp only
        constructor
        · rw [z_w1_r, if_neg (by omega), z_w1_r, if_pos ⟨rfl, rfl⟩]
          rfl
        · rw [z_w1_r, if_pos ⟨rfl, rfl⟩]
          rfl
      · exact a3 j (by omega) h2
    · rw [(a4 j (by omega)).1, (a4 j (by omega)).2]
      exact ⟨w3 103 j (Or.inr (by omega)), w3 104 j (Or.inr (by omega))⟩
def frY (S S' : z_St) : Prop := (∀ a i, a < 101 ∨ 106 < a → (a ≠ 70 ∨ (i ≠ 55 ∧ i ≠ 56)) → S'.1 a i = S.1 a i) ∧ S'.2 = S.2
theorem frY.tr {S S1 S2 : z_St} (h : frY S S1) (h2 : frY S1 S2) : frY S S2 := ⟨fun a i q1 q2 => (h2.1 a i q1 q2).trans (h.1 a i q1 q2), h2.2.trans h.2⟩
theorem MI.fY {S' : z_St} (h : MI A S) (hw : wf A) (hf : frY S S') : MI A S' := h.sc hw (fun i hi => hf.1 70 i (by decide) (Or.inr ⟨(scf_ne hi).1, (scf_ne hi).2.1⟩)) (fun a h7 ha i => hf.1 a i (by have := scr_ne ha; omega) (Or.inl h7))
theorem m_tws {b N R : Nat} {but : Int} (hM : MI A S) (hw : wf A) (hN : A 4 0 = N) (hR : A 3 0 = R) (hb : (b : Int) < A 2 0) (hbut : -1 ≤ but ∧ but < 24) (D : Nat) (hD : 12 ≤ D) : ∃ S', z_ew D 168 [.ref 70, .int (iI (b : Int)), .int (iI but)] S = some (.inl none, S') ∧ TT A (rvb A b but (A 6 0).toNat).reverse R (wy (cK A b N) (List.range R) (rvb A b but (A 6 0).toNat).reverse s0).reverse S' ∧ w8 (rvb A b but (A 6 0).toNat).reverse.length (wy (cK A b N) (List.range R) (rvb A b but (A 6 0).toNat).reverse s0).reverse ∧ frY S S' := by
  have hk := hw.k
  have hb2 := hw.b
  have hro := RO_rv (b := b) (but := but) hw
  obtain ⟨D, rfl⟩ : ∃ m, D = m + 2 := ⟨D - 2, by omega⟩
  have q1 : frY S (z_w1 S.1 70 55 (nI 0), S.2) := ⟨fun a i _ h2 => by
    dsimp only
    rw [z_w1_r, if_neg (by omega)], rfl⟩
  obtain ⟨S1, a1, a2, a3, a4⟩ := m_lay (b := b) (but := but) (N := (A 6 0).toNat) hw (by omega) hbut (by omega) D 0 (A 6 0).toNat 0 999999 (z_w1 S.1 70 55 (nI 0), S.2) none (by omega) (by omega) (hM.fY hw q1) (by dsimp only; rw [z_w1_r, if_pos ⟨rfl, rfl⟩]; rfl) trivial
  have q2 : frY (z_w1 S.1 70 55 (nI 0), S.2) S1 := ⟨fun a i h1 h2 => a4.1 a i (by omega) (by omega), a4.2⟩
  have q3 : frY S1 (z_w1 S1.1 70 56 (nI 0), S1.2) := ⟨fun a i _ h2 => by
    dsimp only
    rw [z_w1_r, if_neg (by omega)], rfl⟩
  obtain ⟨S2, n2, b1, b2, b3, _, b5, b6⟩ := m_fil (b := iI (b : Int)) (D + 1) 0 24 0 999999 (z_w1 S1.1 70 56 (nI 0), S1.2) (some (.int (iI but))) (by omega) (by omega)
  have q4 : frY (z_w1 S1.1 70 56 (nI 0), S1.2) S2 := ⟨fun a i h1 h2 => b5 a i (by omega) (by omega), b6⟩
  have hM2 : MI A S2 := (((hM.fY hw q1).fY hw q2).fY hw q3).fY hw q4
  have e55 : S2.1 70 55 = iI (((rvb A b but (A 6 0).toNat).reverse.length : Nat) : Int) := by
    rw [b5 70 55 (by decide) (by decide), List.length_reverse]
    dsimp only
    rw [z_w1_r, if_neg (by decide)]
    exact a2
  have e56 : S2.1 70 56 = iI 0 := by
    rw [b5 70 56 (by decide) (by decide)]
    dsimp only
    rw [z_w1_r, if_pos ⟨rfl, rfl⟩]
    rfl
  have es : stk (S2.1 101) ((rvb A b but (A 6 0).toNat).reverse.reverse.map f0) := by
    rw [List.reverse_reverse]
    refine stk_up _ a3 (fun i _ => ?_)
    rw [b5 101 i (by decide) (by decide)]
    dsimp only
    rw [z_w1_r, if_neg (by omega)]
  have hT : TT A (rvb A b but (A 6 0).toNat).reverse R [] S2 := ⟨e56, fun j hj => b3 _ (Nat.zero_le _) (by have := hro.g hj; omega), fun q => absurd rfl q⟩
  have h7 := hro.1
  have h8 : 8 ^ (rvb A b but (A 6 0).toNat).reverse.length ≤ 8 ^ 6 := Nat.pow_le_pow_right (by decide) (by omega)
  obtain ⟨S3, c1, c2, c3, _, c5⟩ := m_way hw hN hR hb hro (rvb A b but (A 6 0).toNat).reverse [] [] S2 [] (D + 1) rfl rfl (fun w hw' => by cases hw') hM2 e55 es trivial (fun w hw' => by cases hw') hT (by rw [List.length_nil]; omega) (by omega)
  rw [pw_n, List.append_nil] at c2 c3
  obtain ⟨n2, rfl⟩ : ∃ m, n2 = m + 1 := ⟨n2 - 1, by omega⟩
  refine ⟨S3, ?_, c2, c3, (((q1.tr q2).tr q3).tr q4).tr ⟨fun a i h1 h2 => c5.1 a i (by omega) (by omega) (by omega) (by omega) (by omega) (by omega), c5.2⟩⟩
  rw [zx_168, zx_164, iI_n]
  refine Eq.trans (congrArg (fun x => z_clv x _ _) a1) ?_
  rw [clv_v]
  refine Eq.trans b2 ?_
  rw [zq_168_41, iI_n]
  refine Eq.trans (congrArg (fun x => z_clv x _ _) c1) ?_
  rw [clv_v]
end WYS
