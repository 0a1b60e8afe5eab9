/-! ends: the call -/
def pgM (A : aS) (row : List Nat) (m : Nat) : Int := if m = 0 then 1 else A 35 (row.getD (lsP m 6) 0)
def lz (u x y : Int) : Prop := (u = 0 → x ≤ y) ∧ (u ≠ 0 → y ≤ x)
theorem lsP_s {m k : Nat} : lsP m (k + 1) = if m.testBit k = true then k else lsP m k := rfl
theorem lsP_up {m n : Nat} (hm : m < 2 ^ n) : ∀ k, lsP m (n + k) = lsP m n
  | 0 => rfl
  | k + 1 => by
    have h1 : 2 ^ n ≤ 2 ^ (n + k) := Nat.pow_le_pow_right (by decide) (by omega)
    rw [← Nat.add_assoc, lsP_s, if_neg (by rw [Nat.testBit_lt_two_pow (by omega)]; decide)]
    exact lsP_up hm k
theorem lp_ls {A : aS} {g : Nat → Nat} {r : Nat} {w : List Nat} : ∀ i, i ≤ w.length → ((∃ j, j < i ∧ (mo r w).testBit j = true) → lpg A g (fun j => w.getD j 0) r i = A 35 (g (lsP (mo r w) i))) ∧ ((¬ ∃ j, j < i ∧ (mo r w).testBit j = true) → lpg A g (fun j => w.getD j 0) r i = 1)
  | 0, _ => ⟨fun ⟨j, h, _⟩ => absurd h (Nat.not_lt_zero j), fun _ => rfl⟩
  | i + 1, hi => by
    have ih := lp_ls (A := A) (g := g) (r := r) (w := w) i (by omega)
    have hb := mo_bit (r := r) w i (by omega)
    rw [lpg_s, lsP_s]
    by_cases q : (mo r w).testBit i = true
    · rw [if_pos (hb.mp q), if_pos q]
      exact ⟨fun _ => rfl, fun h => absurd ⟨i, by omega, q⟩ h⟩
    · rw [if_neg (fun e => q (hb.mpr e)), if_neg q]
      refine ⟨fun ⟨j, h1, h2⟩ => ih.1 ⟨j, ?_, h2⟩, fun h => ih.2 (fun ⟨j, h1, h2⟩ => h ⟨j, by omega, h2⟩)⟩
      by_cases e : j = i
      · subst e
        exact absurd h2 q
      · omega
theorem lpR_m {A : aS} {row : List Nat} {r : Nat} {w : List Nat} (h7 : row.length < 7) (hl : w.length = row.length) (hm : mo r w < 2 ^ row.length) : lpR A row r w = pgM A row (mo r w) := by
  have h := lp_ls (A := A) (g := fun j => row.getD j 0) (r := r) (w := w) row.length (by omega)
  unfold lpR pgM
  by_cases q : mo r w = 0
  · rw [if_pos q]
    refine h.2 (fun ⟨j, _, h2⟩ => ?_)
    rw [q, Nat.zero_testBit] at h2
    cases h2
  · rw [if_neg q]
    have e : ∃ j, j < row.length ∧ (mo r w).testBit j = true := by
      refine Classical.byContradiction (fun hn => q ?_)
      refine Nat.eq_of_testBit_eq (fun j => ?_)
      rw [Nat.zero_testBit]
      by_cases e : j < row.length
      · exact Bool.eq_false_iff.mpr (fun z => hn ⟨j, e, z⟩)
      · have h1 : 2 ^ row.length ≤ 2 ^ j := Nat.pow_le_pow_right (by decide) (by omega)
        exact Nat.testBit_lt_two_pow (by omega)
    rw [h.1 e]
    obtain ⟨k, hk⟩ : ∃ k, 6 = row.length + k := ⟨6 - row.length, by omega⟩
    rw [hk, lsP_up hm]
theorem lo_c {A : aS} {row : List Nat} {r : Nat} : ∀ W : List (List Nat), W ≠ [] → ((∃ w, w ∈ W ∧ loP A row r W = lpR A row r w) ∧ ∀ w, w ∈ W → loP A row r W ≤ lpR A row r w) ∧ (∃ w, w ∈ W ∧ hiP A row r W = lpR A row r w) ∧ ∀ w, w ∈ W → lpR A row r w ≤ hiP A row r W
  | [], h => absurd rfl h
  | w :: t, _ => by
    rw [loP_s, hiP_s]
    by_cases e : t = []
    · rw [if_pos e, if_pos e]
      subst e
      refine ⟨⟨⟨w, List.mem_cons_self, rfl⟩, fun x hx => ?_⟩, ⟨w, List.mem_cons_self, rfl⟩, fun x hx => ?_⟩
      · rw [List.mem_singleton] at hx
        rw [hx]
        exact Int.le_refl _
      · rw [List.mem_singleton] at hx
        rw [hx]
        exact Int.le_refl _
    · rw [if_neg e, if_neg e]
      obtain ⟨⟨⟨x, x1, x2⟩, h2⟩, ⟨y, y1, y2⟩, h4⟩ := lo_c (A := A) (row := row) (r := r) t e
      unfold mnI mxI
      refine ⟨⟨?_, fun v hv => ?_⟩, ?_, fun v hv => ?_⟩
      · split
        · exact ⟨w, List.mem_cons_self, rfl⟩
        · exact ⟨x, List.mem_cons_of_mem w x1, x2⟩
      · rcases List.mem_cons.mp hv with rfl | hv
        · split <;> omega
        · have := h2 v hv
          split <;> omega
      · split
        · exact ⟨w, List.mem_cons_self, rfl⟩
        · exact ⟨y, List.mem_cons_of_mem w y1, y2⟩
      · rcases List.mem_cons.mp hv with rfl | hv
        · split <;> omega
        · have := h4 v hv
          split <;> omega
section END
variable {p : Nat} {A : aS} {S : z_St}
theorem c_pk {r m : Int32} {u v P : Int} (hu : u = 0 ∨ u = 1) (hv : -1 ≤ v ∧ v ≤ 401) (hP : 1 ≤ P ∧ P ≤ 401) (d z n : Nat) (x5 x6 : Option Value) : ∃ n' v', n ≤ n' ∧ z_R45 d (n + 6) 48 z [some (.ref 55), some (.int r), some (.int (iI u)), some (.int (iI v)), some (.int m), x5, x6] [.int (iI P)] S = z_R45 d n' 98 z [some (.ref 55), some (.int r), some (.int (iI u)), some (.int (iI v')), some (.int m), none, none] [] S ∧ ((v' = P ∧ (v = -1 ∨ lz u P v)) ∨ (v' = v ∧ v ≠ -1 ∧ lz u v P)) := by
  have fin : ∀ (k : Nat) (t : Int32) (x6 : Option Value), 3 ≤ k → (v = -1 ∨ ¬ t = 0) → ∃ n', k ≤ n' + 3 ∧ z_R45 d k 79 z [some (.ref 55), some (.int r), some (.int (iI u)), some (.int (iI v)), some (.int m), some (.int (iI P)), x6] [.int t] S = z_R45 d n' 98 z [some (.ref 55), some (.int r), some (.int (iI u)), some (.int (iI P)), some (.int m), none, none] [] S := by
    intro k t x6 hk h
    obtain ⟨k, rfl⟩ : ∃ q, k = q + 3 := ⟨k - 3, by omega⟩
    refine ⟨k, by omega, ?_⟩
    by_cases q : v = -1
    · rw [zq_45_79, if_pos (by rw [q]; rfl), zq_45_91, zq_45_97]
    · rw [zq_45_79, nm1, if_neg (by rw [iI_eq (by omega) (by omega) (by decide) (by decide)]; exact q), if_neg (by rcases h with h | h; exact absurd h q; exact h), zq_45_91, zq_45_97]
  have keep : ∀ (k : Nat) (x6 : Option Value), 3 ≤ k → v ≠ -1 → ∃ n', k ≤ n' + 3 ∧ z_R45 d k 79 z [some (.ref 55), some (.int r), some (.int (iI u)), some (.int (iI v)), some (.int m), some (.int (iI P)), x6] [.int (nI 0)] S = z_R45 d n' 98 z [some (.ref 55), some (.int r), some (.int (iI u)), some (.int (iI v)), some (.int m), none, none] [] S := by
    intro k x6 hk q
    obtain ⟨k, rfl⟩ : ∃ q, k = q + 3 := ⟨k - 3, by omega⟩
    refine ⟨k, by omega, ?_⟩
    rw [zq_45_79, nm1, if_neg (by rw [iI_eq (by omega) (by omega) (by decide) (by decide)]; exact q), if_pos (by rfl), zq_45_96, zq_45_97]
  have n1 : ¬ nI 1 = 0 := n10
  rcases hu with rfl | rfl
  · by_cases q : v ≤ P
    · by_cases q2 : v = -1
      · obtain ⟨n', a1, a2⟩ := fin (n + 3) (nI 0) none (by omega) (Or.inl q2)
        refine ⟨n', P, by omega, ?_, Or.inl ⟨rfl, Or.inl q2⟩⟩
        rw [zq_45_48, if_pos (by rfl), zq_45_68, if_pos (by rw [iI_le (by omega) (by omega) (by omega) (by omega)]; exact q), zq_45_78]
        exact a2
      · obtain ⟨n', a1, a2⟩ := keep (n + 3) none (by omega) q2
        refine ⟨n', v, by omega, ?_, Or.inr ⟨rfl, q2, fun _ => q, fun e => absurd rfl e⟩⟩
        rw [zq_45_48, if_pos (by rfl), zq_45_68, if_pos (by rw [iI_le (by omega) (by omega) (by omega) (by omega)]; exact q), zq_45_78]
        exact a2
    · obtain ⟨n', a1, a2⟩ := fin (n + 4) (nI 1) none (by omega) (Or.inr n1)
      refine ⟨n', P, by omega, ?_, Or.inl ⟨rfl, Or.inr ⟨fun _ => by omega, fun e => absurd rfl e⟩⟩⟩
      rw [zq_45_48, if_pos (by rfl), zq_45_68, if_neg (by rw [iI_le (by omega) (by omega) (by omega) (by omega)]; exact q)]
      exact a2
  · by_cases q : P ≤ v
    · obtain ⟨n', a1, a2⟩ := keep (n + 4) none (by omega) (by omega)
      refine ⟨n', v, by omega, ?_, Or.inr ⟨rfl, by omega, fun e => by omega, fun _ => q⟩⟩
      rw [zq_45_48, if_neg n10, if_pos (by rw [iI_le (by omega) (by omega) (by omega) (by omega)]; exact q), zq_45_64]
      exact a2
    · obtain ⟨n', a1, a2⟩ := fin (n + 5) (nI 1) none (by omega) (Or.inr n1)
      refine ⟨n', P, by omega, ?_, Or.inl ⟨rfl, Or.inr ⟨fun e => by omega, fun _ => by omega⟩⟩⟩
      rw [zq_45_48, if_neg n10, if_neg (by rw [iI_le (by omega) (by omega) (by omega) (by omega)]; exact q)]
      exact a2
/-- what is found among masks below m -/
def iE (A : aS) (b r : Nat) (u : Int) (m : Nat) (v : Int) : Prop := (v = -1 ∧ ∀ m', m' < m → ¬ hpB A b r m') ∨ ((∃ m', m' < m ∧ hpB A b r m' ∧ v = pgM A (rv A b (A 6 0).toNat).reverse m') ∧ ∀ m', m' < m → hpB A b r m' → lz u v (pgM A (rv A b (A 6 0).toNat).reverse m'))
theorem lz_t {u x y z : Int} (h1 : lz u x y) (h2 : lz u y z) : lz u x z := ⟨fun e => Int.le_trans (h1.1 e) (h2.1 e), fun e => Int.le_trans (h2.2 e) (h1.2 e)⟩
theorem lz_r {u x : Int} : lz u x x := ⟨fun _ => Int.le_refl _, fun _ => Int.le_refl _⟩
theorem c_enL {b r : Nat} {u : Int} (hw : wf A) (hG : GG A p b (A 4 0).toNat (rv A b (A 6 0).toNat) S) (hF : F62 A b (A 4 0).toNat (rv A b (A 6 0).toNat) S (A 3 0).toNat 0) (hN : N63 A b (A 4 0).toNat (rv A b (A 6 0).toNat) (rsL (r : Int) (A 3 0).toNat) S) (hr : r < (A 3 0).toNat) (hu : u = 0 ∨ u = 1) (d z : Nat) : ∀ (k m n : Nat) (v : Int) (x5 x6 : Option Value), m + k = 2 ^ (rv A b (A 6 0).toNat).length → 12 * k + 2 ≤ n → (-1 ≤ v ∧ v ≤ 401) → iE A b r u m v → ∃ v', z_R45 (d + 2) n 10 z [some (.ref 55), some (.int (iI (r : Int))), some (.int (iI u)), some (.int (iI v)), some (.int (iI (m : Int))), x5, x6] [] S = some (.inl (some (.int (iI v'))), S) ∧ (-1 ≤ v' ∧ v' ≤ 401) ∧ iE A b r u (2 ^ (rv A b (A 6 0).toNat).length) v' := by
  have ho := oks_rv hw (b := b)
  have h7 := ho.1
  have h6 : 2 ^ (rv A b (A 6 0).toNat).length ≤ 2 ^ 6 := Nat.pow_le_pow_right (by decide) (by omega)
  have h64 := (all_t _ h7).2
  intro k
  induction k with
  | zero =>
    intro m n v x5 x6 hm hn hv hI
    obtain ⟨n, rfl⟩ : ∃ q, n = q + 2 := ⟨n - 2, by omega⟩
    rw [Nat.add_zero] at hm
    rw [hm] at hI
    refine ⟨v, ?_, hv, hI⟩
    rw [zq_45_10, c_all hG h7 (d + 1), cli_i, if_pos (by rw [iI_lt (by omega) (by omega) (by omega) (by omega)]; omega), zq_45_104]
  | succ k ih =>
    intro m n v x5 x6 hm hn hv hI
    obtain ⟨n, rfl⟩ : ∃ q, n = q + 12 := ⟨n - 12, by omega⟩
    have e2 : (m : Int) + ((1 : Nat) : Int) = ((m + 1 : Nat) : Int) := by omega
    obtain ⟨hb, hb1, hb2⟩ := c_hap hw hG hF hN hr (show m < 2 ^ (rv A b (A 6 0).toNat).length by omega) d
    rw [zq_45_10, c_all hG h7 (d + 1), cli_i, if_neg (by rw [iI_lt (by omega) (by omega) (by omega) (by omega)]; omega), hb1, cli_i]
    rcases hb2 with ⟨rfl, hp⟩ | ⟨rfl, hp⟩
    · rw [if_neg n10]
      have hpg : 1 ≤ pgM A (rv A b (A 6 0).toNat).reverse m ∧ pgM A (rv A b (A 6 0).toNat).reverse m ≤ 401 ∧ (m ≠ 0 → lsP m 6 < (rv A b (A 6 0).toNat).length) := by
        unfold pgM
        by_cases q : m = 0
        · rw [if_pos q]
          exact ⟨by decide, by decide, fun e => absurd q e⟩
        · rw [if_neg q]
          have hls := ls_t m (by omega) q
          have hL : lsP m 6 < (rv A b (A 6 0).toNat).length := by
            refine Classical.byContradiction (fun e => ?_)
            have : 2 ^ (rv A b (A 6 0).toNat).length ≤ 2 ^ lsP m 6 := Nat.pow_le_pow_right (by decide) (by omega)
            omega
          have := ho.g hL
          exact ⟨this.2.2.1, this.2.2.2, fun _ => hL⟩
      have fin : ∀ n0, 12 * k + 3 ≤ n0 → ∃ v2, z_R45 (d + 2) (n0 + 6) 48 z [some (.ref 55), some (.int (iI (r : Int))), some (.int (iI u)), some (.int (iI v)), some (.int (iI (m : Int))), none, none] [.int (iI (pgM A (rv A b (A 6 0).toNat).reverse m))] S = some (.inl (some (.int (iI v2))), S) ∧ (-1 ≤ v2 ∧ v2 ≤ 401) ∧ iE A b r u (2 ^ (rv A b (A 6 0).toNat).length) v2 := by
        intro n0 hn0
        obtain ⟨n', v', c1, c2, c3⟩ := c_pk (S := S) (r := iI (r : Int)) (m := iI (m : Int)) hu hv ⟨hpg.1, hpg.2.1⟩ (d + 2) z n0 none none
        have hI2 : iE A b r u (m + 1) v' := by
          refine Or.inr ?_
          rcases c3 with ⟨rfl, hc⟩ | ⟨rfl, hc1, hc2⟩
          · refine ⟨⟨m, by omega, hp, rfl⟩, fun m' h1 h2 => ?_⟩
            by_cases e : m' = m
            · subst e
              exact lz_r
            · rcases hI with ⟨_, hI⟩ | ⟨⟨m1, g1, g2, rfl⟩, hI⟩
              · exact absurd h2 (hI m' (by omega))
              · rcases hc with hc | hc
                · have := (oks_rv hw (b := b))
                  exfalso
                  have hge : 1 ≤ pgM A (rv A b (A 6 0).toNat).reverse m1 := by
                    unfold pgM
                    by_cases q : m1 = 0
                    · rw [if_pos q]; decide
                    · rw [if_neg q]
                      have hls := ls_t m1 (by omega) q
                      have hL : lsP m1 6 < (rv A b (A 6 0).toNat).length := by
                        refine Classical.byContradiction (fun e => ?_)
                        have : 2 ^ (rv A b (A 6 0).toNat).length ≤ 2 ^ lsP m1 6 := Nat.pow_le_pow_right (by decide) (by omega)
                        omega
                      exact (ho.g hL).2.2.1
                  omega
                · exact lz_t hc (hI m' (by omega) h2)
          · rcases hI with ⟨hI, _⟩ | ⟨⟨m1, g1, g2, g3⟩, hI⟩
            · exact absurd hI hc1
            · refine ⟨⟨m1, by omega, g2, g3⟩, fun m' h1 h2 => ?_⟩
              by_cases e : m' = m
              · subst e
                exact hc2
              · exact hI m' (by omega) h2
        have hv' : -1 ≤ v' ∧ v' ≤ 401 := by
          rcases c3 with ⟨rfl, _⟩ | ⟨rfl, _⟩
          · exact ⟨by omega, hpg.2.1⟩
          · exact hv
        obtain ⟨n', rfl⟩ : ∃ q, n' = q + 1 := ⟨n' - 1, by omega⟩
        obtain ⟨v2, e3, e4, e5⟩ := ih (m + 1) n' v' none none (by omega) (by omega) hv' hI2
        refine ⟨v2, ?_, e4, e5⟩
        rw [c2, zq_45_98, iI_n 1, iI_add, e2]
        exact e3
      by_cases q : m = 0
      · obtain ⟨v2, g1, g2⟩ := fin (n + 5) (by omega)
        refine ⟨v2, ?_, g2⟩
        rw [if_pos (by rw [q]; rfl)]
        rw [show pgM A (rv A b (A 6 0).toNat).reverse m = 1 by unfold pgM; rw [if_pos q]] at g1
        exact g1
      · obtain ⟨v2, g1, g2⟩ := fin (n + 4) (by omega)
        refine ⟨v2, ?_, g2⟩
        have hL := hpg.2.2 q
        rw [if_neg (by rw [iI_0, iI_eq (by omega) (by omega) (by decide) (by decide)]; omega), zq_45_38, c_lastE (by omega) (d + 1), cli_i, ixN (show lsP m 6 < 6 by omega) (by decide), cond_true, tN (by omega), stk_get (rv A b (A 6 0).toNat) hG.2.1.2.2.2.2.2 _ hL]
        rw [show pgM A (rv A b (A 6 0).toNat).reverse m = A 35 ((rv A b (A 6 0).toNat).reverse.getD (lsP m 6) 0) by unfold pgM; rw [if_neg q]] at g1
        exact g1
    · rw [if_pos z00, zq_45_98, iI_n 1, iI_add, e2]
      refine ih (m + 1) (n + 10) v none none (by omega) (by omega) hv ?_
      rcases hI with ⟨h1, h2⟩ | ⟨⟨m1, g1, g2, g3⟩, h2⟩
      · refine Or.inl ⟨h1, fun m' h => ?_⟩
        by_cases e : m' = m
        · rw [e]; exact hp
        · exact h2 m' (by omega)
      · refine Or.inr ⟨⟨m1, by omega, g2, g3⟩, fun m' h h3 => ?_⟩
        by_cases e : m' = m
        · rw [e] at h3; exact absurd h3 hp
        · exact h2 m' (by omega) h3
end END
