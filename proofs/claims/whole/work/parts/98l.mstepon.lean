/-! the next token: the model's -/
def kM (T : Nat → Int) (n s : Nat) : Int := if n ≤ s then 0 else if tkL (T s) = true then 1 else if tkD (T s) = true then 2 else if tkS (T s) = true then 3 else 4
def tkM (T : Nat → Int) (n s : Nat) (S : z_St) : Prop := S.1 70 18 = iI (en T n s : Int) ∧ S.1 70 20 = iI (kM T n s) ∧ S.1 70 22 = iI (s : Int) ∧ S.1 70 23 = iI (en T n s : Int) ∧ (kM T n s = 2 → S.1 70 21 = iI (cvF 100000 T (n - s) s 0))
def frT (S S' : z_St) : Prop := (∀ a i, a ≠ 70 ∨ (i ≠ 18 ∧ i ≠ 20 ∧ i ≠ 21 ∧ i ≠ 22 ∧ i ≠ 23) → S'.1 a i = S.1 a i) ∧ S'.2 = S.2
theorem frT.tr {S S1 S2 : z_St} (h : frT S S1) (h2 : frT S1 S2) : frT S S2 := ⟨fun a i q => (h2.1 a i q).trans (h.1 a i q), h2.2.trans h.2⟩
section MSO
variable {S : z_St}
theorem frT_w {i : Nat} (hi : i = 18 ∨ i = 20 ∨ i = 21 ∨ i = 22 ∨ i = 23) (v : Int32) : frT S (z_w1 S.1 70 i v, S.2) := ⟨fun a j h => by dsimp only; rw [z_w1_r, if_neg (by omega)], rfl⟩
theorem w70 {i j : Nat} (v : Int32) (h : j ≠ i) : z_w1 S.1 70 i v 70 j = S.1 70 j := by rw [z_w1_r, if_neg (by omega)]
theorem w7e {i : Nat} (v : Int32) : z_w1 S.1 70 i v 70 i = v := by rw [z_w1_r, if_pos ⟨rfl, rfl⟩]
theorem txM.w {T : Nat → Int} {n : Nat} {S' : z_St} (h : txM T n S) (hf : frT S S') : txM T n S' := h.f (fun i => hf.1 82 i (by omega)) (hf.1 70 19 (by omega))
/-- the end of it: what it ends with is put down -/
theorem m_fin {v : Int32} (d n z : Nat) (x1 : Option Value) (h : S.1 70 18 = v) : z_R120 d (n + 1) 212 z [some (.ref 70), x1] [] S = some (.inl none, (z_w1 S.1 70 23 v, S.2)) := by rw [zq_120_212, h]
theorem m_step {T : Nat → Int} {n0 q : Nat} (hn0 : n0 ≤ 700) (hT : txM T n0 S) (h : S.1 70 18 = iI (q : Int)) (hq : q ≤ n0) (d : Nat) : ∃ S', z_ew (d + 2) 120 [.ref 70] S = some (.inl none, S') ∧ tkM T n0 (rn tkB T n0 q) S' ∧ frT S S' := by
  obtain ⟨S1, n1, a1, a2, a3, a4⟩ := m_blk hn0 d 0 (n0 - q) q z_fuel S none (by omega) (by unfold z_fuel; omega) hT h
  have a1 : 1000000 ≤ n1 + 2 * (n0 - q) + 1 := a1
  have hs := rn_r (P := tkB) (T := T) hq
  obtain ⟨s, hse⟩ : ∃ s, s = rn tkB T n0 q := ⟨_, rfl⟩
  have a3 : S1.1 70 18 = iI (rn tkB T n0 q : Int) := a3
  rw [← hse] at a3 hs ⊢
  have f1 : frT S S1 := ⟨fun a i h => a4.1 a i (by omega), a4.2⟩
  have f2 : frT S (z_w1 S1.1 70 22 (iI (s : Int)), S1.2) := f1.tr (frT_w (by decide) _)
  have hT2 := hT.w f2
  obtain ⟨S2, hS2⟩ : ∃ S2 : z_St, S2 = (z_w1 S1.1 70 22 (iI (s : Int)), S1.2) := ⟨_, rfl⟩
  rw [← hS2] at f2 hT2
  have g18 : S2.1 70 18 = iI (s : Int) := by
    rw [hS2]
    dsimp only
    rw [z_w1_r, if_neg (by omega)]
    exact a3
  have g22 : S2.1 70 22 = iI (s : Int) := by
    rw [hS2]
    dsimp only
    rw [z_w1_r, if_pos ⟨rfl, rfl⟩]
  obtain ⟨n1, rfl⟩ : ∃ m, n1 = m + 10 := ⟨n1 - 10, by omega⟩
  have e0 : z_ew (d + 2) 120 [.ref 70] S = z_cli (z_ew (d + 1) 116 [.ref 70, .int (iI (s : Int))] S2) (fun x2 S1 => if x2 = (-nI 1) then (z_R120 (d + 1) (n1 + 9) 212 0 [some (.ref 70), some (.int x2)] [] ((z_w1 S1.1 70 20 (nI 0)), S1.2)) else (z_R120 (d + 1) (n1 + 9) 69 0 [some (.ref 70), some (.int x2)] [] S1)) (z_hnd []) := by
    refine (ze_120 (d + 1) [.ref 70] S rfl).trans (Eq.trans a2 ?_)
    rw [zq_120_39, a3, ← hS2]
  have fin : ∀ S3 : z_St, S3.1 70 18 = iI (en T n0 s : Int) → S3.1 70 20 = iI (kM T n0 s) → S3.1 70 22 = iI (s : Int) → (kM T n0 s = 2 → S3.1 70 21 = iI (cvF 100000 T (n0 - s) s 0)) → frT S S3 → tkM T n0 s (z_w1 S3.1 70 23 (iI (en T n0 s : Int)), S3.2) ∧ frT S (z_w1 S3.1 70 23 (iI (en T n0 s : Int)), S3.2) := by
    intro S3 h1 h2 h3 h4 h5
    refine ⟨⟨?_, ?_, ?_, ?_, fun e => ?_⟩, h5.tr (frT_w (by decide) _)⟩
    · dsimp only
      rw [z_w1_r, if_neg (by omega)]
      exact h1
    · dsimp only
      rw [z_w1_r, if_neg (by omega)]
      exact h2
    · dsimp only
      rw [z_w1_r, if_neg (by omega)]
      exact h3
    · dsimp only
      rw [z_w1_r, if_pos ⟨rfl, rfl⟩]
    · dsimp only
      rw [z_w1_r, if_neg (by omega)]
      exact h4 e
  rw [e0, m_byt hn0 hT2 (by omega) d, cli_i]
  by_cases c : s < n0
  · have hr := (hT2.2 s c).1
    have hb : btM T n0 s = T s := by
      unfold btM
      rw [if_pos c]
    rw [hb, nm1, if_neg (by rw [iI_eq (by omega) (by omega) (by decide) (by decide)]; omega), zq_120_69, m_isL (by omega) d, cli_i]
    by_cases cl : tkL (T s) = true
    · have hen : en T n0 s = rn tkL T n0 s := by
        unfold en
        rw [if_neg (by omega), if_pos cl]
      have hk : kM T n0 s = 1 := by
        unfold kM
        rw [if_neg (by omega), if_pos cl]
      obtain ⟨S3, n3, b1, b2, b3, b4⟩ := m_let hn0 d 0 (n0 - s) s (n1 + 8) S2 (some (.int (iI (T s)))) (by omega) (by omega) hT2 g18
      have b3 : S3.1 70 18 = iI (rn tkL T n0 s : Int) := b3
      obtain ⟨n3, rfl⟩ : ∃ m, n3 = m + 2 := ⟨n3 - 2, by omega⟩
      have fr3 : frT S (z_w1 S3.1 70 20 (nI 1), S3.2) := (f2.tr ⟨fun a i h => b4.1 a i (by omega), b4.2⟩).tr (frT_w (by decide) _)
      have e18 : (z_w1 S3.1 70 20 (nI 1), S3.2).1 70 18 = iI (en T n0 s : Int) := by
        dsimp only
        rw [z_w1_r, if_neg (by omega), hen]
        exact b3
      have := fin (z_w1 S3.1 70 20 (nI 1), S3.2) e18 (by dsimp only; rw [z_w1_r, if_pos ⟨rfl, rfl⟩, hk]; rfl) (by dsimp only; rw [z_w1_r, if_neg (by omega), b4.1 70 22 (by omega)]; exact g22) (fun e => by rw [hk] at e; cases e) fr3
      refine ⟨_, ?_, this.1, this.2⟩
      rw [cl, if_neg (by decide +kernel), b2, zq_120_103, m_fin (d + 1) n3 0 none e18]
    · rw [Bool.eq_false_iff.mpr cl, if_pos (by rfl), zq_120_111, m_isD (by omega) d, cli_i]
      by_cases cd : tkD (T s) = true
      · have hen : en T n0 s = rn tkD T n0 s := by
          unfold en
          rw [if_neg (by omega), if_neg cl, if_pos cd]
        have hk : kM T n0 s = 2 := by
          unfold kM
          rw [if_neg (by omega), if_neg cl, if_pos cd]
        have f3 : frT S (z_w1 S2.1 70 21 (nI 0), S2.2) := f2.tr (frT_w (by decide) _)
        obtain ⟨S3, n3, b1, b2, b3, b5, b4⟩ := m_dig hn0 d 0 (n0 - s) s (n1 + 7) 0 (z_w1 S2.1 70 21 (nI 0), S2.2) (some (.int (iI (T s)))) (by omega) (by omega) (hT.w f3) (by dsimp only; rw [z_w1_r, if_neg (by omega)]; exact g18) (by dsimp only; rw [z_w1_r, if_pos ⟨rfl, rfl⟩]; rfl) (by decide)
        have b3 : S3.1 70 18 = iI (rn tkD T n0 s : Int) := b3
        obtain ⟨n3, rfl⟩ : ∃ m, n3 = m + 2 := ⟨n3 - 2, by omega⟩
        have fr3 : frT S (z_w1 S3.1 70 20 (nI 2), S3.2) := (f3.tr ⟨fun a i h => b4.1 a i (by omega), b4.2⟩).tr (frT_w (by decide) _)
        have e18 : (z_w1 S3.1 70 20 (nI 2), S3.2).1 70 18 = iI (en T n0 s : Int) := by
          dsimp only
          rw [z_w1_r, if_neg (by omega), hen]
          exact b3
        have := fin (z_w1 S3.1 70 20 (nI 2), S3.2) e18 (by dsimp only; rw [z_w1_r, if_pos ⟨rfl, rfl⟩, hk]; rfl) (by dsimp only; rw [z_w1_r, if_neg (by omega), b4.1 70 22 (by omega)]; dsimp only; rw [z_w1_r, if_neg (by omega)]; exact g22) (fun _ => by dsimp only; rw [z_w1_r, if_neg (by omega)]; exact b5) fr3
        refine ⟨_, ?_, this.1, this.2⟩
        rw [cd, if_neg (by decide +kernel), b2, zq_120_178, m_fin (d + 1) n3 0 none e18]
      · have hen : en T n0 s = s + 1 := by
          unfold en
          rw [if_neg (by omega), if_neg cl, if_neg cd]
        have hk : kM T n0 s = if tkS (T s) = true then 3 else 4 := by
          unfold kM
          rw [if_neg (by omega), if_neg cl, if_neg cd]
        have e3 : iI (s : Int) + nI 1 = iI (en T n0 s : Int) := by
          rw [iI_n, iI_add, hen]
          congr 1
        have f3 : frT S (z_w1 S2.1 70 18 (iI (en T n0 s : Int)), S2.2) := f2.tr (frT_w (by decide) _)
        have e18 : (z_w1 (z_w1 S2.1 70 18 (iI (en T n0 s : Int))) 70 20 (iI (kM T n0 s)), S2.2).1 70 18 = iI (en T n0 s : Int) := by
          dsimp only
          rw [z_w1_r, if_neg (by omega), z_w1_r, if_pos ⟨rfl, rfl⟩]
        have := fin (z_w1 (z_w1 S2.1 70 18 (iI (en T n0 s : Int))) 70 20 (iI (kM T n0 s)), S2.2) e18 (by dsimp only; rw [z_w1_r, if_pos ⟨rfl, rfl⟩]) (by dsimp only; rw [z_w1_r, if_neg (by omega), z_w1_r, if_neg (by omega)]; exact g22) (fun e => by rw [hk] at e; split at e <;> cases e) (f3.tr (frT_w (S := (z_w1 S2.1 70 18 (iI (en T n0 s : Int)), S2.2)) (by decide) _))
        refine ⟨_, ?_, this.1, this.2⟩
        rw [Bool.eq_false_iff.mpr cd, if_pos (by rfl), zq_120_186, g18, e3, m_isM (by omega) d, cli_i]
        by_cases cs : tkS (T s) = true
        · rw [if_pos cs] at hk
          rw [cs, if_neg (by decide +kernel), zq_120_209, show nI 3 = iI (kM T n0 s) by rw [hk]; rfl, m_fin (d + 1) _ 0 none e18]
        · rw [if_neg cs] at hk
          rw [Bool.eq_false_iff.mpr cs, if_pos (by rfl), zq_120_208, zq_120_209, show nI 4 = iI (kM T n0 s) by rw [hk]; rfl, m_fin (d + 1) _ 0 none e18]
  · have hb : btM T n0 s = -1 := by
      unfold btM
      rw [if_neg c]
    have hen : en T n0 s = s := by
      unfold en
      rw [if_pos (by omega)]
    have hk : kM T n0 s = 0 := by
      unfold kM
      rw [if_pos (by omega)]
    have e18 : (z_w1 S2.1 70 20 (nI 0), S2.2).1 70 18 = iI (en T n0 s : Int) := by
      dsimp only
      rw [z_w1_r, if_neg (by omega), hen]
      exact g18
    have := fin (z_w1 S2.1 70 20 (nI 0), S2.2) e18 (by dsimp only; rw [z_w1_r, if_pos ⟨rfl, rfl⟩, hk]; rfl) (by dsimp only; rw [z_w1_r, if_neg (by omega)]; exact g22) (fun e => by rw [hk] at e; cases e) (f2.tr (frT_w (by decide) _))
    refine ⟨_, ?_, this.1, this.2⟩
    rw [hb, if_pos (by rfl), m_fin (d + 1) _ 0 _ e18]
end MSO
