/-! in how many ways readers share: the class -/
def enS (m : Nat) : Nat → Nat → List Nat
  | 0, _ => []
  | f + 1, o => if o = 0 then [] else o :: enS m f ((o - 1) &&& m)
theorem enS_s {m f o : Nat} : enS m (f + 1) o = if o = 0 then [] else o :: enS m f ((o - 1) &&& m) := rfl
theorem en_p : ∀ n, n < 7 → ∀ m, m < 64 → m < 2 ^ n → ((0 :: enS m m m).isPerm (sbm n m)) = true := by decide +kernel
theorem xs_t : ∀ m : Nat, m < 64 → ∀ o : Nat, o < 64 → o &&& m = o → m ^^^ o = m - o := by decide +kernel
theorem an_t : ∀ m : Nat, m < 64 → ∀ o : Nat, o < 64 → o ≠ 0 → (iI (o : Int) - nI 1) &&& iI (m : Int) = iI (((o - 1) &&& m : Nat) : Int) := by decide +kernel
def s0 : Nat → Option Nat := fun _ => none
section SPL
variable {p : Nat} {A : aS} {S : z_St}
def nM (A : aS) (b N : Nat) (rev : List Nat) (Rs : List Nat) (m : Nat) : Nat := nw (cK A b N) Rs (sel rev.reverse m) s0
theorem nM_add {b N r m : Nat} {rev Rs : List Nat} (hr : r ∉ Rs) (hn : rev.length < 7) (hm : m < 2 ^ rev.length) : nM A b N rev (Rs ++ [r]) m = nM A b N rev Rs m + smF (fun o => if fT A b N rev r o = true then nM A b N rev Rs (m - o) else 0) (enS m m m) := by
  have h6 : 2 ^ rev.length ≤ 2 ^ 6 := Nat.pow_le_pow_right (by decide) (by omega)
  have hm' : m < 2 ^ rev.reverse.length := by rw [List.length_reverse]; exact hm
  unfold nM
  rw [nw_add (cK A b N) Rs r hr, ← (sbm_sp rev.reverse m hm').1, smF_map, List.length_reverse, ← smF_perm _ (List.isPerm_iff.1 (en_p rev.length hn m (by omega) hm))]
  show (if ft (cK A b N) r (s0 r) (sel rev.reverse 0) = true then nw (cK A b N) Rs (sel rev.reverse (m - 0)) s0 else 0) + _ = _
  have e0 : sel rev.reverse 0 = [] := by
    rw [sel_i (by rw [List.length_reverse]; exact hn) (Nat.pow_pos (by decide))]
    rfl
  rw [e0, if_pos (show ft (cK A b N) r (s0 r) [] = true from rfl), Nat.sub_zero]
  rfl
theorem smF_s {α : Type} {g : α → Nat} {x : α} {l : List α} : smF g (x :: l) = g x + smF g l := rfl
def N63 (A : aS) (b N : Nat) (rev Rs : List Nat) (S : z_St) : Prop := ∀ m, m < 2 ^ rev.length → S.1 63 m = iI (nM A b N rev Rs m : Int)
theorem c_ai {b N r m : Nat} {rev Rs : List Nat} (hn7 : rev.length < 7) (hm : m < 2 ^ rev.length) (hr8 : r < 8) (d z : Nat) : ∀ (f o n acc : Nat) (S : z_St) (x1 : Option Value), o ≤ f → o < 64 → o &&& m = o → 2 * f + 1 ≤ n → (∀ q, q < 2 ^ rev.length → S.1 62 (r * 64 + q) = bI (fT A b N rev r q)) → (∀ q, q < m → S.1 63 q = iI (nM A b N rev Rs q : Int)) → S.1 63 m = iI (acc : Int) → ∃ S' n' x4, n ≤ n' + 2 * f + 1 ∧ z_R55 d n 17 z [some (.ref 55), x1, some (.int (iI ((r * 64 : Nat) : Int))), some (.int (iI (m : Int))), some (.int (iI (o : Int)))] [] S = z_R55 d n' 63 z [some (.ref 55), none, some (.int (iI ((r * 64 : Nat) : Int))), some (.int (iI (m : Int))), x4] [] S' ∧ S'.1 63 m = iI ((acc + smF (fun o => if fT A b N rev r o = true then nM A b N rev Rs (m - o) else 0) (enS m f o) : Nat) : Int) ∧ (∀ a i, (a ≠ 63 ∨ i ≠ m) → S'.1 a i = S.1 a i) ∧ S'.2 = S.2 := by
  have h6 : 2 ^ rev.length ≤ 2 ^ 6 := Nat.pow_le_pow_right (by decide) (by omega)
  have done : ∀ (f n acc : Nat) (S : z_St) (x1 : Option Value), 1 ≤ n → S.1 63 m = iI (acc : Int) → ∃ S' n' x4, n ≤ n' + 2 * f + 1 ∧ z_R55 d n 17 z [some (.ref 55), x1, some (.int (iI ((r * 64 : Nat) : Int))), some (.int (iI (m : Int))), some (.int (iI ((0 : Nat) : Int)))] [] S = z_R55 d n' 63 z [some (.ref 55), none, some (.int (iI ((r * 64 : Nat) : Int))), some (.int (iI (m : Int))), x4] [] S' ∧ S'.1 63 m = iI ((acc + 0 : Nat) : Int) ∧ (∀ a i, (a ≠ 63 ∨ i ≠ m) → S'.1 a i = S.1 a i) ∧ S'.2 = S.2 := by
    intro f n acc S x1 hn ha
    obtain ⟨n, rfl⟩ : ∃ q, n = q + 1 := ⟨n - 1, by omega⟩
    refine ⟨S, n, some (.int (iI ((0 : Nat) : Int))), by omega, ?_, ha, fun _ _ _ => rfl, rfl⟩
    rw [zq_55_17, if_pos (by decide +kernel)]
  intro f
  induction f with
  | zero =>
    intro o n acc S x1 ho ho2 hsub hn hF hO ha
    have e : o = 0 := by omega
    subst e
    exact done 0 n acc S x1 (by omega) ha
  | succ f ih =>
    intro o n acc S x1 ho ho2 hsub hn hF hO ha
    by_cases e0 : o = 0
    · subst e0
      rw [enS_s, if_pos rfl]
      exact done (f + 1) n acc S x1 (by omega) ha
    · obtain ⟨n, rfl⟩ : ∃ q, n = q + 2 := ⟨n - 2, by omega⟩
      have hle := sub_le hsub
      have hnx : (o - 1) &&& m ≤ o - 1 := Nat.and_le_left
      have hnx2 : ((o - 1) &&& m) &&& m = (o - 1) &&& m := by rw [Nat.and_assoc, Nat.and_self]
      have eb : iI ((r * 64 : Nat) : Int) + iI (o : Int) = iI ((r * 64 + o : Nat) : Int) := by rw [iI_add]; congr 1
      rw [enS_s, if_neg e0, zq_55_17, iI_0, if_neg (by rw [iI_le (by omega) (by omega) (by decide) (by decide)]; omega), eb, ixN (by omega) (by decide), cond_true, tN (by omega), hF o (by omega)]
      rw [smF_s]
      by_cases q : fT A b N rev r o = true
      · have ex : iI (m : Int) ^^^ iI (o : Int) = iI ((m - o : Nat) : Int) := by rw [xor_u m (by omega) o ho2, xs_t m (by omega) o ho2 hsub]
        obtain ⟨S', n', x4, g1, g2, g3, g4, g5⟩ := ih ((o - 1) &&& m) n (acc + nM A b N rev Rs (m - o)) (z_w1 S.1 63 m (iI ((acc + nM A b N rev Rs (m - o) : Nat) : Int)), S.2) none (by omega) (by omega) hnx2 (by omega) (fun x hx => by dsimp only; rw [z_w1_r, if_neg (by omega)]; exact hF x hx) (fun x hx => by dsimp only; rw [z_w1_r, if_neg (by omega)]; exact hO x hx) (by dsimp only; rw [z_w1_r, if_pos ⟨rfl, rfl⟩])
        refine ⟨S', n', x4, by omega, ?_, ?_, fun a i h => ?_, g5⟩
        · rw [if_neg (by unfold bI; rw [← iI_0, b01]; exact fun e => e q), ixN (by omega) (by decide), cond_true, ex, ixN (by omega) (by decide), cond_true, cond_true, tN (by omega), tN (by omega), ha, hO (m - o) (by omega), iI_add, zq_55_52, an_t m (by omega) o ho2 e0]
          exact g2
        · rw [g3, if_pos q, Nat.add_assoc]
        · rw [g4 a i h]
          dsimp only
          rw [z_w1_r, if_neg (by omega)]
      · obtain ⟨S', n', x4, g1, g2, g3, g4, g5⟩ := ih ((o - 1) &&& m) n acc S none (by omega) (by omega) hnx2 (by omega) hF hO ha
        refine ⟨S', n', x4, by omega, ?_, ?_, g4, g5⟩
        · rw [if_pos (by unfold bI; rw [← iI_0, b01]; exact q), zq_55_52, an_t m (by omega) o ho2 e0]
          exact g2
        · rw [g3, if_neg q, Nat.zero_add]
theorem c_as {b N r : Nat} {rev Rs : List Nat} (hn7 : rev.length < 7) (hr8 : r < 8) (hRs : r ∉ Rs) (d z : Nat) : ∀ (k n : Nat) (S : z_St) (x1 x4 : Option Value), k < 2 ^ rev.length → 200 * k + 2 ≤ n → (∀ q, q < 2 ^ rev.length → S.1 62 (r * 64 + q) = bI (fT A b N rev r q)) → (∀ q, q < 2 ^ rev.length → S.1 63 q = if q ≤ k then iI (nM A b N rev Rs q : Int) else iI (nM A b N rev (Rs ++ [r]) q : Int)) → ∃ S', z_R55 d n 10 z [some (.ref 55), x1, some (.int (iI ((r * 64 : Nat) : Int))), some (.int (iI (k : Int))), x4] [] S = some (.inl none, S') ∧ N63 A b N rev (Rs ++ [r]) S' ∧ (∀ a i, a ≠ 63 → S'.1 a i = S.1 a i) ∧ S'.2 = S.2 := by
  have h6 : 2 ^ rev.length ≤ 2 ^ 6 := Nat.pow_le_pow_right (by decide) (by omega)
  intro k
  induction k with
  | zero =>
    intro n S x1 x4 hk hn hF hO
    obtain ⟨n, rfl⟩ : ∃ q, n = q + 2 := ⟨n - 2, by omega⟩
    refine ⟨S, ?_, fun m hm => ?_, fun _ _ _ => rfl, rfl⟩
    · rw [zq_55_10, if_pos (by decide +kernel), zq_55_69]
    · rw [hO m hm]
      by_cases e : m ≤ 0
      · have : m = 0 := by omega
        subst this
        rw [if_pos e, nM_add hRs hn7 hm]
        rfl
      · rw [if_neg e]
  | succ k ih =>
    intro n S x1 x4 hk hn hF hO
    obtain ⟨n, rfl⟩ : ∃ q, n = q + 200 := ⟨n - 200, by omega⟩
    obtain ⟨S1, n1, y4, g1, g2, g3, g4, g5⟩ := c_ai (A := A) (b := b) (N := N) (Rs := Rs) hn7 hk hr8 d z (k + 1) (k + 1) (n + 199) (nM A b N rev Rs (k + 1)) S none (Nat.le_refl _) (by omega) (Nat.and_self _) (by omega) hF (fun q hq => by rw [hO q (by omega), if_pos (by omega)]) (by rw [hO (k + 1) hk, if_pos (Nat.le_refl _)])
    obtain ⟨n1, rfl⟩ : ∃ q, n1 = q + 1 := ⟨n1 - 1, by omega⟩
    rw [← nM_add hRs hn7 hk] at g3
    have e2 : iI ((k + 1 : Nat) : Int) + (-nI 1) = iI (k : Int) := by
      rw [nm1, iI_add]
      congr 1
      omega
    obtain ⟨S2, a1, a2, a3, a4⟩ := ih n1 S1 none none (by omega) (by omega) (fun q hq => by rw [g4 62 _ (by omega)]; exact hF q hq) (fun q hq => by
      by_cases e : q = k + 1
      · subst e
        rw [g3, if_neg (by omega)]
      · rw [g4 63 q (by omega), hO q hq]
        by_cases e3 : q ≤ k
        · rw [if_pos e3, if_pos (by omega)]
        · rw [if_neg e3, if_neg (by omega)])
    refine ⟨S2, ?_, a2, fun a i ha => ?_, a4.trans g5⟩
    · rw [zq_55_10, if_neg (by rw [iI_0, iI_le (by omega) (by omega) (by decide) (by decide)]; omega), g2, zq_55_63, e2]
      exact a1
    · rw [a3 a i ha, g4 a i (by omega)]
theorem nM_nil {b N m : Nat} {rev : List Nat} (hn : rev.length < 7) (hm : m < 2 ^ rev.length) : nM A b N rev [] m = if m = 0 then 1 else 0 := by
  have h6 : 2 ^ rev.length ≤ 2 ^ 6 := Nat.pow_le_pow_right (by decide) (by omega)
  unfold nM
  by_cases e : m = 0
  · subst e
    rw [if_pos rfl, sel_i (by rw [List.length_reverse]; exact hn) (Nat.pow_pos (by decide))]
    rfl
  · rw [if_neg e, sel_i (by rw [List.length_reverse]; exact hn) (by rw [List.length_reverse]; exact hm), (ls_t m (by omega) e).2.2.1, List.map_append]
    cases h : (idx (m ^^^ 2 ^ lsP m 6)).map (fun i => rev.reverse.getD i 0) with
    | nil => rfl
    | cons x t => rfl
def rsL (left : Int) (k : Nat) : List Nat := (List.range k).filter (fun x => !(decide ((x : Int) = left)))
theorem rsL_s (left : Int) (k : Nat) : rsL left (k + 1) = if (k : Int) = left then rsL left k else rsL left k ++ [k] := by
  unfold rsL
  rw [List.range_succ, List.filter_append]
  by_cases h : (k : Int) = left
  · rw [if_pos h, List.filter_cons_of_neg (by simp [h])]
    simp
  · rw [if_neg h, List.filter_cons_of_pos (by simp [h])]
    rfl
theorem rsL_n (left : Int) (k : Nat) : k ∉ rsL left k := by
  unfold rsL
  intro h
  have := List.mem_range.1 (List.mem_filter.1 h).1
  omega
theorem c_sl2 {b N R : Nat} {rev : List Nat} {left : Int} (hw : wf A) (hn7 : rev.length < 7) (hR : A 3 0 = R) (hl : -1 ≤ left ∧ left < 8) (d z : Nat) : ∀ (k r n : Nat) (S : z_St), r + k = R → 2 * k + 2 ≤ n → GG A p b N rev S → F62 A b N rev S R 0 → N63 A b N rev (rsL left r) S → ∃ S', z_R54 (d + 2) n 17 z [some (.ref 55), some (.int (iI left)), some (.int (iI (r : Int)))] [] S = some (.inl none, S') ∧ N63 A b N rev (rsL left R) S' ∧ (∀ a i, a ≠ 63 → S'.1 a i = S.1 a i) ∧ S'.2 = S.2 := by
  have hr2 := hw.r
  obtain ⟨-, al2, al3⟩ := all_t rev.length hn7
  intro k
  induction k with
  | zero =>
    intro r n S hr hn hG hF hN
    obtain ⟨n, rfl⟩ : ∃ q, n = q + 2 := ⟨n - 2, by omega⟩
    obtain ⟨g1, g2⟩ := hG.2.1.p1 hG.1
    have e : r = R := by omega
    subst e
    refine ⟨S, ?_, hN, fun _ _ _ => rfl, rfl⟩
    rw [zq_54_17, g1, cond_false, g2, hG.1.p3, cond_true, c_3 hG.1, hR, if_pos (by rw [iI_le (by omega) (by omega) (by omega) (by omega)]; omega), zq_54_44]
  | succ k ih =>
    intro r n S hr hn hG hF hN
    obtain ⟨n, rfl⟩ : ∃ q, n = q + 2 := ⟨n - 2, by omega⟩
    obtain ⟨g1, g2⟩ := hG.2.1.p1 hG.1
    have e2 : (r : Int) + ((1 : Nat) : Int) = ((r + 1 : Nat) : Int) := by omega
    rw [zq_54_17, g1, cond_false, g2, hG.1.p3, cond_true, c_3 hG.1, hR, if_neg (by rw [iI_le (by omega) (by omega) (by omega) (by omega)]; omega)]
    by_cases q : (r : Int) = left
    · rw [if_pos (by rw [q]), zq_54_38, iI_n 1, iI_add, e2]
      refine ih (r + 1) n S (by omega) (by omega) hG hF ?_
      rw [rsL_s, if_pos q]
      exact hN
    · have e6 : iI (r : Int) * nI 64 = iI ((r * 64 : Nat) : Int) := by rw [iI_n, iI_mul]; congr 1
      obtain ⟨S1, a1, a2, a3, a4⟩ := c_as (A := A) (b := b) (N := N) (r := r) (Rs := rsL left r) hn7 (by omega) (rsL_n left r) (d + 1) 0 (2 ^ rev.length - 1) 999999 S (some (.int (iI (r : Int)))) none (by omega) (by omega) (fun q hq => hF.1 r q (by omega) hq) (fun q hq => by rw [hN q hq, if_pos (by omega)])
      have a2' : N63 A b N rev (rsL left (r + 1)) S1 := by rw [rsL_s, if_neg q]; exact a2
      obtain ⟨S2, b1, b2, b3, b4⟩ := ih (r + 1) n S1 (by omega) (by omega) (hG.f (fun a i ha => a3 a i (by omega)) a4) ⟨fun r' m' hr' hm' => by rw [a3 62 _ (by decide)]; exact hF.1 r' m' hr' hm', fun m' hm' => by omega⟩ a2'
      refine ⟨S2, ?_, b2, fun a i ha => (b3 a i ha).trans (a3 a i ha), b4.trans a4⟩
      rw [if_neg (by rw [iI_eq (by omega) (by omega) (by omega) (by omega)]; exact q), zx_55, c_all hG hn7 d, cli_i, e6, a1, clv_v, zq_54_38, iI_n 1, iI_add, e2]
      exact b1
/-- split -/
theorem c_split {b N : Nat} {rev : List Nat} {left : Int} (hw : wf A) (hn7 : rev.length < 7) (hl : -1 ≤ left ∧ left < 8) (hG : GG A p b N rev S) (hF : F62 A b N rev S (A 3 0).toNat 0) (d : Nat) : ∃ S', z_ew (d + 3) 54 [.ref 55, .int (iI left)] S = some (.inl none, S') ∧ N63 A b N rev (rsL left (A 3 0).toNat) S' ∧ (∀ a i, a ≠ 63 → S'.1 a i = S.1 a i) ∧ S'.2 = S.2 := by
  have hr2 := hw.r
  have h6 : 2 ^ rev.length ≤ 2 ^ 6 := Nat.pow_le_pow_right (by decide) (by omega)
  obtain ⟨S1, a1, a2, a3, a4⟩ := fillE (r := 63) (N := 64) (v := nI 0) rfl rfl rfl (by decide) (d + 1) S
  have f1 : ∀ a i, a ≠ 63 → z_w1 S1.1 63 0 (nI 1) a i = S.1 a i := by
    intro a i ha
    rw [z_w1_r, if_neg (by omega), a3 a i (by omega)]
  obtain ⟨S2, b1, b2, b3, b4⟩ := c_sl2 (A := A) (p := p) (b := b) (N := N) (R := (A 3 0).toNat) (left := left) hw hn7 (by omega) hl d 0 (A 3 0).toNat 0 999999 (z_w1 S1.1 63 0 (nI 1), S1.2) (by omega) (by omega) (hG.f (fun a i ha => f1 a i (by omega)) a4) ⟨fun r' m' hr' hm' => by dsimp only; rw [f1 62 _ (by decide)]; exact hF.1 r' m' hr' hm', fun m' hm' => by omega⟩ (fun m hm => by
    dsimp only
    show z_w1 S1.1 63 0 (nI 1) 63 m = iI (nM A b N rev [] m : Int)
    rw [nM_nil hn7 hm, z_w1_r]
    by_cases e : m = 0
    · rw [if_pos ⟨rfl, e⟩, if_pos e]
      rfl
    · rw [if_neg (fun x => e x.2), if_neg e, a2 m (by omega)]
      rfl)
  refine ⟨S2, ?_, b2, fun a i ha => ?_, b4.trans a4⟩
  · rw [zx_54, a1, clv_v]
    exact b1
  · rw [b3 a i ha]
    exact f1 a i ha
end SPL
