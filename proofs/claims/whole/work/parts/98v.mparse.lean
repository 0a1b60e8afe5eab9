/-! the model's parser: its small methods -/
def OKm (T : Nat → Int) (n s : Nat) (c : List Int) (S : z_St) : Prop := txM T n S ∧ tkM T n s S ∧ S.1 70 24 = iI 0 ∧ S.1 70 27 = iI (c.length : Int) ∧ ∀ i (h : i < c.length), S.1 79 (700 + i) = iI c[i]
def Fm (T : Nat → Int) (n : Nat) (k : Int) (pl : Nat) (S : z_St) : Prop := txM T n S ∧ tkM T n pl S ∧ 1 ≤ k ∧ k ≤ 3 ∧ pl ≤ n ∧ S.1 70 24 = iI k ∧ S.1 70 25 = iI (pl : Int)
def RM (T : Nat → Int) (n : Nat) (r : pR) (S : z_St) : Prop := match r with
  | .inl x => x.1 ≤ n ∧ x.2.length ≤ x.1 ∧ OKm T n x.1 x.2 S
  | .inr e => Fm T n e.1 e.2 S
def frM (S S' : z_St) : Prop := S'.2 = S.2 ∧ ∀ a i, (a ≠ 70 ∨ (i < 18 ∨ i = 19 ∨ i = 26 ∨ 28 ≤ i)) → (a ≠ 79 ∨ i < 700) → S'.1 a i = S.1 a i
theorem frM.rf (S : z_St) : frM S S := ⟨rfl, fun _ _ _ _ => rfl⟩
theorem frM.tr {S S1 S2 : z_St} (h : frM S S1) (h2 : frM S1 S2) : frM S S2 := ⟨h2.1.trans h.1, fun a i a1 a2 => (h2.2 a i a1 a2).trans (h.2 a i a1 a2)⟩
theorem frT.M {S S' : z_St} (h : frT S S') : frM S S' := ⟨h.2, fun a i a1 a2 => h.1 a i (by omega)⟩
/-- a number, in a range -/
def pNm (T : Nat → Int) (n : Nat) (lo hi : Int) (s : Nat) (c : List Int) : pR := if kd T n s = 1 then (if lo ≤ nb T n s ∧ nb T n s ≤ hi then .inl (nx T n s, c) else .inr (2, s)) else .inr (1, s)
theorem cv_eq {T : Nat → Int} : ∀ (k s j : Nat) (v : Int), rnF tkD T k s ≤ s + j → 0 ≤ v → (v + 1) * 10 ^ j ≤ 10000 → cvF 10000 T k s v = cvF 100000 T k s v
  | 0, s, j, v, _, _, _ => rfl
  | k + 1, s, j, v, h, h0, h1 => by
    rw [cvF_s, cvF_s]
    rw [rnF_s] at h
    by_cases c : tkD (T s) = true
    · rw [if_pos c] at h
      rw [if_pos c, if_pos c]
      have hr := rnF_r (P := tkD) (T := T) k (s + 1)
      have hd : 48 ≤ T s ∧ T s ≤ 57 := of_decide_eq_true c
      cases j with
      | zero => omega
      | succ j =>
        have e : (10 : Int) ^ (j + 1) = 10 ^ j * 10 := Int.pow_succ 10 j
        have hp : (1 : Int) ≤ 10 ^ j := by
          have := Int.pow_pos (n := 10) (m := j) (by decide)
          omega
        rw [e] at h1
        have h2 : (10 * v + 10) * 10 ^ j ≤ 10000 := by
          have : (v + 1) * (10 ^ j * 10) = (10 * v + 10) * 10 ^ j := by
            rw [Int.mul_comm (10 ^ j) 10, ← Int.mul_assoc]
            congr 1
            omega
          omega
        have h3 : (v * 10 + T s - 48 + 1) * 10 ^ j ≤ 10000 := Int.le_trans (Int.mul_le_mul_of_nonneg_right (by omega) (by omega)) h2
        have h4 : v * 10 + T s - 48 + 1 ≤ 10000 := by
          have := Int.mul_le_mul_of_nonneg_left hp (show 0 ≤ v * 10 + T s - 48 + 1 by omega)
          omega
        have e1 : ∀ cap : Int, 10000 ≤ cap → mnI cap (v * 10 + T s - 48) = v * 10 + T s - 48 := by
          intro cap hc
          unfold mnI
          split <;> omega
        rw [e1 10000 (by omega), e1 100000 (by omega)]
        exact cv_eq k (s + 1) j _ (by omega) (by omega) h3
    · rw [if_neg c, if_neg c]
theorem nb_m {T : Nat → Int} {n s : Nat} (h : kd T n s = 1) : (kM T n s = 2) ∧ ((en T n s ≤ s + 4 ∧ nb T n s = cvF 100000 T (n - s) s 0) ∨ (s + 4 < en T n s ∧ nb T n s = 10000)) := by
  have hs := kd_lt (T := T) (n := n) (s := s) (by omega)
  have hd : ¬ tkL (T s) = true ∧ tkD (T s) = true := by
    unfold kd at h
    rw [if_neg (by omega)] at h
    by_cases cl : tkL (T s) = true
    · rw [if_pos cl] at h; omega
    · rw [if_neg cl] at h
      refine ⟨cl, Classical.byContradiction (fun cd => ?_)⟩
      rw [if_neg cd] at h
      split at h
      · rename_i hS
        have := of_decide_eq_true hS
        omega
      · omega
  refine ⟨?_, ?_⟩
  · unfold kM
    rw [if_neg (by omega), if_neg hd.1, if_pos hd.2]
  · unfold en nb
    rw [if_neg (by omega), if_neg hd.1, if_pos hd.2, if_neg (by omega), if_neg hd.1, if_pos hd.2]
    have hr := rn_r (P := tkD) (T := T) (n := n) (q := s) (by omega)
    by_cases c : rn tkD T n s - s ≤ 4
    · refine Or.inl ⟨by omega, ?_⟩
      rw [if_pos c]
      exact cv_eq (n - s) s 4 0 (by unfold rn at c hr; omega) (by omega) (by decide)
    · refine Or.inr ⟨by omega, ?_⟩
      rw [if_neg c]
theorem kM_1 {T : Nat → Int} {n s : Nat} : (kM T n s = 2 ↔ kd T n s = 1) ∧ (kM T n s = 1 ↔ kd T n s = 2) ∧ (0 ≤ kM T n s ∧ kM T n s ≤ 4) ∧ (∀ sg, tkS sg = true → (kd T n s = sg ↔ kM T n s = 3 ∧ T s = sg)) := by
  unfold kM kd
  by_cases c : n ≤ s
  · rw [if_pos c, if_pos c]
    refine ⟨by omega, by omega, by omega, fun sg hsg => ?_⟩
    have := of_decide_eq_true hsg
    omega
  · rw [if_neg c, if_neg c]
    by_cases cl : tkL (T s) = true
    · rw [if_pos cl, if_pos cl]
      refine ⟨by omega, by omega, by omega, fun sg hsg => ?_⟩
      have := of_decide_eq_true hsg
      omega
    · rw [if_neg cl, if_neg cl]
      by_cases cd : tkD (T s) = true
      · rw [if_pos cd, if_pos cd]
        refine ⟨by omega, by omega, by omega, fun sg hsg => ?_⟩
        have := of_decide_eq_true hsg
        omega
      · rw [if_neg cd, if_neg cd]
        by_cases cs : tkS (T s) = true
        · have := of_decide_eq_true cs
          rw [if_pos cs, if_pos cs]
          exact ⟨by omega, by omega, by omega, fun sg hsg => by omega⟩
        · rw [if_neg cs, if_neg cs]
          refine ⟨by omega, by omega, by omega, fun sg hsg => ?_⟩
          have := of_decide_eq_true hsg
          omega
section MP
variable {S : z_St} {T : Nat → Int} {n s : Nat} {c : List Int}
theorem OKm.t (h : OKm T n s c S) : ∀ k, k < n → 0 ≤ T k ∧ T k ≤ 255 := fun k hk => (h.1.2 k hk).1
theorem Fm.ne {k : Int} {pl : Nat} (h : Fm T n k pl S) : ¬ S.1 70 24 = 0 := by
  obtain ⟨-, -, a1, a2, -, a3, -⟩ := h
  rw [a3, iI_0, iI_eq (by omega) (by omega) (by omega) (by omega)]
  omega
theorem mp_wr {k : Int} (hk : 1 ≤ k ∧ k ≤ 3) (hs : s ≤ n) (h : OKm T n s c S) (d : Nat) : ∃ S', z_ew (d + 1) 121 [.ref 70, .int (iI k)] S = some (.inl none, S') ∧ Fm T n k s S' ∧ frM S S' := by
  obtain ⟨h0, ⟨k1, k2, k3, k4, k5⟩, h1, h2, h3⟩ := h
  have fr : ∀ a i, a ≠ 70 ∨ (i ≠ 24 ∧ i ≠ 25) → z_w1 (z_w1 S.1 70 24 (iI k)) 70 25 (S.1 70 22) a i = S.1 a i := by
    intro a i hi
    rw [z_w1_r, if_neg (by omega), z_w1_r, if_neg (by omega)]
  refine ⟨(z_w1 (z_w1 S.1 70 24 (iI k)) 70 25 (S.1 70 22), S.2), ?_, ⟨h0.f (fun i => fr 82 i (by omega)) (fr 70 19 (by omega)), ⟨(fr 70 18 (by omega)).trans k1, (fr 70 20 (by omega)).trans k2, (fr 70 22 (by omega)).trans k3, (fr 70 23 (by omega)).trans k4, fun q => (fr 70 21 (by omega)).trans (k5 q)⟩, hk.1, hk.2, hs, ?_, ?_⟩, rfl, fun a i a1 a2 => fr a i (by omega)⟩
  · rw [zx_121, if_pos (show S.1 70 24 = 0 from h1), zq_121_8]
  · dsimp only
    rw [z_w1_r, if_neg (by omega), z_w1_r, if_pos ⟨rfl, rfl⟩]
  · dsimp only
    rw [z_w1_r, if_pos ⟨rfl, rfl⟩, k3]
theorem mp_wrF {k : Int} {pl : Nat} (h : Fm T n k pl S) (l : Int32) (d : Nat) : z_ew (d + 1) 121 [.ref 70, .int l] S = some (.inl none, S) := by
  rw [zx_121, if_neg h.ne]
theorem m_ism (hn : n ≤ 700) {sg : Int} (hsg : tkS sg = true) (h : OKm T n s c S) (d : Nat) : z_ew (d + 1) 123 [.ref 70, .int (iI sg)] S = some (.inl (some (.int (bI (decide (kd T n s = sg))))), S) := by
  obtain ⟨h0, ⟨k1, k2, k3, k4, k5⟩, h1, h2, h3⟩ := h
  obtain ⟨-, -, m3, m4⟩ := kM_1 (T := T) (n := n) (s := s)
  have hsr := of_decide_eq_true hsg
  rw [zx_123, if_pos (show S.1 70 24 = 0 from h1), k2]
  by_cases e : kM T n s = 3
  · have hs : s < n := by
      refine Classical.byContradiction (fun cc => ?_)
      unfold kM at e
      rw [if_pos (by omega)] at e
      omega
    have hb := (h0.2 s hs).1
    rw [if_pos (show iI (kM T n s) = nI 3 by rw [e]; rfl), k3, ixN (show s < 700 by omega) (by decide), cond_true, tN (by omega), (h0.2 s hs).2]
    by_cases e2 : T s = sg
    · rw [if_pos (by rw [e2]), zq_123_33, rbn1, cond_true, decide_eq_true ((m4 sg hsg).mpr ⟨e, e2⟩)]
      rfl
    · rw [if_neg (by rw [iI_eq (by omega) (by omega) (by omega) (by omega)]; exact e2), zq_123_32, zq_123_33, rbn0, cond_true, decide_eq_false (fun q => e2 ((m4 sg hsg).mp q).2)]
      rfl
  · rw [if_neg (show ¬ iI (kM T n s) = nI 3 by rw [show nI 3 = iI 3 from rfl, iI_eq (by omega) (by omega) (by omega) (by omega)]; exact e), zq_123_32, zq_123_33, rbn0, cond_true, decide_eq_false (fun q => e ((m4 sg hsg).mp q).1)]
    rfl
theorem m_ismF {k : Int} {pl : Nat} (h : Fm T n k pl S) (l : Int32) (d : Nat) : z_ew (d + 1) 123 [.ref 70, .int l] S = some (.inl (some (.int (bI false))), S) := by
  rw [zx_123, if_neg h.ne, zq_123_32, zq_123_33, rbn0, cond_true]
  rfl
theorem m_isO (hn : n ≤ 700) (hs : s ≤ n) (h : OKm T n s c S) {i : Nat} (h1 : 1 ≤ i) (h2 : i < 17) (d : Nat) : z_ew (d + 1) 122 [.ref 70, .ref (1200 + i)] S = some (.inl (some (.int (bI (decide (wd T n s = i))))), S) := by
  have := m_is (S := S) (bad := 0) hn h.1 h.2.1 hs h1 h2 h.2.2.1 (by omega) d
  rw [this]
  rfl
theorem m_isF (hn : n ≤ 700) {k : Int} {pl : Nat} (h : Fm T n k pl S) {i : Nat} (h1 : 1 ≤ i) (h2 : i < 17) (d : Nat) : z_ew (d + 1) 122 [.ref 70, .ref (1200 + i)] S = some (.inl (some (.int (bI false))), S) := by
  obtain ⟨a0, a1, a2, a3, a4, a5, a6⟩ := h
  have := m_is (S := S) (bad := k) hn a0 a1 a4 h1 h2 a5 (by omega) d
  rw [this, decide_eq_false (by omega)]
  rfl
theorem m_nx (hn : n ≤ 700) (hs : s ≤ n) (h : OKm T n s c S) (d : Nat) : ∃ S', z_ew (d + 2) 120 [.ref 70] S = some (.inl none, S') ∧ OKm T n (nx T n s) c S' ∧ frM S S' := by
  obtain ⟨h0, ⟨k1, k2, k3, k4, k5⟩, h1, h2, h3⟩ := h
  have he : en T n s ≤ n := by
    by_cases cs : s < n
    · exact (en_r cs).2
    · unfold en
      rw [if_pos (by omega)]
      exact hs
  obtain ⟨S', b1, b2, b3⟩ := m_step hn h0 k1 he d
  exact ⟨S', b1, ⟨h0.w b3, b2, (b3.1 70 24 (by omega)).trans h1, (b3.1 70 27 (by omega)).trans h2, fun i hi => (b3.1 79 _ (by omega)).trans (h3 i hi)⟩, b3.M⟩
theorem m_ps (hn : n ≤ 700) (hs : s ≤ n) (h : OKm T n s c S) {i : Nat} (h1 : 1 ≤ i) (h2 : i < 17) (d : Nat) : ∃ S', z_ew (d + 3) 125 [.ref 70, .ref (1200 + i)] S = some (.inl (some (.int (bI (decide (wd T n s = i))))), S') ∧ OKm T n (if wd T n s = i then nx T n s else s) c S' ∧ frM S S' := by
  rw [zx_125, m_isO hn hs h h1 h2 (d + 1), cli_i]
  by_cases e : wd T n s = i
  · obtain ⟨S', b1, b2, b3⟩ := m_nx hn hs h d
    rw [decide_eq_true e, if_neg (show ¬ bI true = 0 by decide +kernel), if_pos e, b1, clv_v, zq_125_14, show z_rb (some .boolean) (bI true) = true from rfl, cond_true]
    exact ⟨S', rfl, b2, b3⟩
  · rw [decide_eq_false e, if_pos (show bI false = 0 by rfl), if_neg e, zq_125_14, show z_rb (some .boolean) (bI false) = true from rfl, cond_true]
    exact ⟨S, rfl, h, frM.rf S⟩
theorem m_psF (hn : n ≤ 700) {k : Int} {pl : Nat} (h : Fm T n k pl S) {i : Nat} (h1 : 1 ≤ i) (h2 : i < 17) (d : Nat) : z_ew (d + 2) 125 [.ref 70, .ref (1200 + i)] S = some (.inl (some (.int (bI false))), S) := by
  rw [zx_125, m_isF hn h h1 h2 d, cli_i, if_pos (show bI false = 0 by rfl), zq_125_14, show z_rb (some .boolean) (bI false) = true from rfl, cond_true]
theorem m_sg (hn : n ≤ 700) {sg : Int} (hsg : tkS sg = true) {r : pR} (h : RM T n r S) (d : Nat) : ∃ S', z_ew (d + 3) 126 [.ref 70, .int (iI sg)] S = some (.inl none, S') ∧ RM T n (pB r (pSg T n sg)) S' ∧ frM S S' := by
  have hsr := of_decide_eq_true hsg
  cases r with
  | inl x =>
    obtain ⟨s, c⟩ := x
    have hs : s ≤ n := h.1
    have hc : c.length ≤ s := h.2.1
    have hO : OKm T n s c S := h.2.2
    rw [zx_126, if_pos (show S.1 70 24 = 0 from hO.2.2.1), m_ism hn hsg hO (d + 1), cli_i, show pB (Sum.inl (s, c)) (pSg T n sg) = pSg T n sg s c from rfl]
    unfold pSg
    by_cases e : kd T n s = sg
    · obtain ⟨S', b1, b2, b3⟩ := m_nx hn hs hO d
      have hx := nx_r (T := T) (kd_lt (T := T) (n := n) (s := s) (by omega))
      rw [decide_eq_true e, if_neg (show ¬ bI true = 0 by decide +kernel), zq_126_20, if_pos (show S.1 70 24 = 0 from hO.2.2.1), b1, clv_v, zq_126_31, if_pos e]
      exact ⟨S', rfl, ⟨hx.2, by show c.length ≤ nx T n s; omega, b2⟩, b3⟩
    · obtain ⟨S', b1, b2, b3⟩ := mp_wr (k := 1) (by omega) hs hO (d + 1)
      rw [decide_eq_false e, if_pos (show bI false = 0 by rfl), show nI 1 = iI 1 from rfl, b1, clv_v, zq_126_20, if_neg b2.ne, zq_126_31, if_neg e]
      exact ⟨S', rfl, b2, b3⟩
  | inr e =>
    have hF : Fm T n e.1 e.2 S := h
    rw [zx_126, if_neg hF.ne, zq_126_20, if_neg hF.ne, zq_126_31]
    exact ⟨S, rfl, h, frM.rf S⟩
theorem m_nm (hn : n ≤ 700) {lo hi : Int} (hlo : 0 ≤ lo) (hhi : hi ≤ 9999) (hlh : lo ≤ hi) (hs : s ≤ n) (hc : c.length ≤ s) (h : OKm T n s c S) (d : Nat) : ∃ x S', z_ew (d + 3) 127 [.ref 70, .int (iI lo), .int (iI hi)] S = some (.inl (some (.int x)), S') ∧ RM T n (pNm T n lo hi s c) S' ∧ frM S S' ∧ (∀ y, pNm T n lo hi s c = .inl y → x = iI (nb T n s)) := by
  obtain ⟨m1, -, m3, -⟩ := kM_1 (T := T) (n := n) (s := s)
  obtain ⟨k1, k2, k3, k4, k5⟩ := h.2.1
  have h24 : S.1 70 24 = 0 := h.2.2.1
  rw [zx_127, if_pos h24, zq_127_9, k2]
  unfold pNm
  by_cases e : kd T n s = 1
  · obtain ⟨a1, a2⟩ := nb_m e
    have hb := nb_0 (s := s) h.t
    have hx := nx_r (T := T) (kd_lt (T := T) (n := n) (s := s) (by omega))
    have her := en_r (T := T) (kd_lt (T := T) (n := n) (s := s) (by omega))
    rw [if_pos (show iI (kM T n s) = nI 2 by rw [a1]; rfl), if_pos e, zq_127_25, k3, k4, iI_sub, k5 a1, iI_n 4]
    by_cases ok : lo ≤ nb T n s ∧ nb T n s ≤ hi
    · rcases a2 with a2 | a2
      · obtain ⟨S', b1, b2, b3⟩ := m_nx hn hs h d
        rw [← a2.2, if_neg (by rw [iI_lt (by omega) (by omega) (by omega) (by omega)]; omega), if_neg (by rw [iI_lt (by omega) (by omega) (by omega) (by omega)]; omega), if_pos (by rw [iI_le (by omega) (by omega) (by omega) (by omega)]; omega), zq_127_59, if_pos h24, b1, clv_v, zq_127_75, k5 a1, ← a2.2, if_pos ok]
        exact ⟨_, S', rfl, ⟨hx.2, by show c.length ≤ nx T n s; omega, b2⟩, b3, fun _ _ => rfl⟩
      · omega
    · obtain ⟨S', b1, b2, b3⟩ := mp_wr (k := 2) (by omega) hs h (d + 1)
      have go : ∀ fu, z_R127 (d + 2) (fu + 3) 54 0 [some (.ref 70), some (.int (iI lo)), some (.int (iI hi)), none] [] S = some (.inl (some (.int (S'.1 70 21))), S') := by
        intro fu
        rw [zq_127_54, show nI 2 = iI 2 from rfl, b1, clv_v, zq_127_59, if_neg b2.ne, zq_127_75]
      rw [if_neg ok]
      refine ⟨S'.1 70 21, S', ?_, b2, b3, fun y hy => by cases hy⟩
      rcases a2 with a2 | a2
      · rw [← a2.2, if_neg (by rw [iI_lt (by omega) (by omega) (by omega) (by omega)]; omega)]
        by_cases l1 : nb T n s < lo
        · rw [if_pos (by rw [iI_lt (by omega) (by omega) (by omega) (by omega)]; omega)]
          exact go 999994
        · rw [if_neg (by rw [iI_lt (by omega) (by omega) (by omega) (by omega)]; omega), if_neg (by rw [iI_le (by omega) (by omega) (by omega) (by omega)]; omega)]
          exact go 999994
      · rw [if_pos (by rw [iI_lt (by omega) (by omega) (by omega) (by omega)]; omega)]
        exact go 999994
  · obtain ⟨S', b1, b2, b3⟩ := mp_wr (k := 1) (by omega) hs h (d + 1)
    rw [if_neg (show ¬ iI (kM T n s) = nI 2 by rw [show nI 2 = iI 2 from rfl, iI_eq (by omega) (by omega) (by omega) (by omega)]; exact fun q => e (m1.mp q)), show nI 1 = iI 1 from rfl, b1, clv_v, zq_127_59, if_neg b2.ne, zq_127_75, if_neg e]
    exact ⟨_, S', rfl, b2, b3, fun y hy => by cases hy⟩
theorem m_nmF {k : Int} {pl : Nat} (h : Fm T n k pl S) (l1 l2 : Int32) (d : Nat) : z_ew (d + 1) 127 [.ref 70, .int l1, .int l2] S = some (.inl (some (.int (nI 0))), S) := by
  rw [zx_127, if_neg h.ne]
theorem mp_lay (h : OKm T n s c S) (hc : c.length < 700) (v : Int) (d : Nat) : ∃ S', z_ew (d + 1) 128 [.ref 70, .int (iI v)] S = some (.inl none, S') ∧ OKm T n s (c ++ [v]) S' ∧ frM S S' := by
  obtain ⟨h0, ⟨k1, k2, k3, k4, k5⟩, h1, h2, h3⟩ := h
  have fr : ∀ a i, (a ≠ 70 ∨ i ≠ 27) → (a ≠ 79 ∨ i ≠ 700 + c.length) → z_w1 (z_w1 S.1 79 (700 + c.length) (iI v)) 70 27 (iI ((c.length + 1 : Nat) : Int)) a i = S.1 a i := by
    intro a i a1 a2
    rw [z_w1_r, if_neg (by omega), z_w1_r, if_neg (by omega)]
  refine ⟨(z_w1 (z_w1 S.1 79 (700 + c.length) (iI v)) 70 27 (iI ((c.length + 1 : Nat) : Int)), S.2), ?_, ⟨h0.f (fun i => fr 82 i (by omega) (by omega)) (fr 70 19 (by omega) (by omega)), ⟨(fr 70 18 (by omega) (by omega)).trans k1, (fr 70 20 (by omega) (by omega)).trans k2, (fr 70 22 (by omega) (by omega)).trans k3, (fr 70 23 (by omega) (by omega)).trans k4, fun q => (fr 70 21 (by omega) (by omega)).trans (k5 q)⟩, (fr 70 24 (by omega) (by omega)).trans h1, ?_, ?_⟩, rfl, fun a i a1 a2 => fr a i (by omega) (by omega)⟩
  · rw [zx_128, if_pos (show S.1 70 24 = 0 from h1), zq_128_8, h2, iI_n 700, iI_add, show ((700 : Nat) : Int) + (c.length : Int) = ((700 + c.length : Nat) : Int) by omega, ixN (show 700 + c.length < 1400 by omega) (by decide), cond_true, tN (by omega), iI_n 1, iI_add, show (c.length : Int) + ((1 : Nat) : Int) = ((c.length + 1 : Nat) : Int) by omega]
  · dsimp only
    rw [z_w1_r, if_pos ⟨rfl, rfl⟩, List.length_append]
    rfl
  · intro i hi
    rw [List.length_append] at hi
    have hi : i < c.length + 1 := hi
    by_cases ci : i = c.length
    · subst ci
      dsimp only
      rw [z_w1_r, if_neg (by omega), z_w1_r, if_pos ⟨rfl, rfl⟩, List.getElem_append_right (Nat.le_refl _)]
      simp
    · rw [List.getElem_append_left (by omega)]
      exact (fr 79 (700 + i) (by omega) (by omega)).trans (h3 i (by omega))
theorem mp_layF {k : Int} {pl : Nat} (h : Fm T n k pl S) (l : Int32) (d : Nat) : z_ew (d + 1) 128 [.ref 70, .int l] S = some (.inl none, S) := by
  rw [zx_128, if_neg h.ne]
theorem vs_t : ∀ j, j < 7 → z_vs.getD j 0 = 1200 + (if j < 6 then 11 + j else 1) := by decide +kernel
theorem m_whL (hn : n ≤ 700) (hs : s ≤ n) (h : OKm T n s c S) (d : Nat) : ∀ (m j fu : Nat), j + m = 7 → 2 * m + 2 ≤ fu → (∀ i, i < j → wd T n s ≠ (if i < 6 then 11 + i else 1)) → z_R124 (d + 1) fu 2 0 [some (.ref 70), some (.ref 71), some (.int (iI (j : Int)))] [] S = some (.inl (some (.int (iI (wvI (wd T n s))))), S) := by
  intro m
  induction m with
  | zero =>
    intro j fu hj hf hw
    obtain ⟨fu, rfl⟩ : ∃ f, fu = f + 2 := ⟨fu - 2, by omega⟩
    rw [zq_124_2, iI_n 7, if_pos (by rw [iI_le (by omega) (by omega) (by omega) (by omega)]; omega), zq_124_26]
    have e : wvI (wd T n s) = -1 := by
      unfold wvI
      have h6 := hw 6 (by omega)
      rw [if_neg (by omega)] at h6
      rw [if_neg h6]
      by_cases c11 : 11 ≤ wd T n s
      · have h17 := wd_17 (T := T) (n := n) (s := s)
        have := hw (wd T n s - 11) (by omega)
        rw [if_pos (by omega)] at this
        omega
      · rw [if_neg c11]
    rw [e]
    rfl
  | succ m ih =>
    intro j fu hj hf hw
    obtain ⟨fu, rfl⟩ : ∃ f, fu = f + 2 := ⟨fu - 2, by omega⟩
    rw [zq_124_2, iI_n 7, if_neg (by rw [iI_le (by omega) (by omega) (by omega) (by omega)]; omega), ixN (show j < 7 by omega) (by decide), cond_true, tN (by omega), vs_t j (by omega), m_isO hn hs h (by split <;> omega) (by split <;> omega) d, cli_i]
    by_cases e : wd T n s = (if j < 6 then 11 + j else 1)
    · rw [decide_eq_true e, if_neg (show ¬ bI true = 0 by decide +kernel)]
      have e2 : wvI (wd T n s) = (j : Int) := by
        unfold wvI
        rw [e]
        by_cases c6 : j < 6
        · rw [if_pos c6, if_neg (by omega), if_pos (by omega)]
          omega
        · rw [if_neg c6, if_pos rfl]
          omega
      rw [e2]
    · rw [decide_eq_false e, if_pos (show bI false = 0 by rfl), zq_124_20, iI_n 1, iI_add, show (j : Int) + ((1 : Nat) : Int) = ((j + 1 : Nat) : Int) by omega]
      refine ih (j + 1) fu (by omega) (by omega) (fun i hi => ?_)
      by_cases q : i = j
      · rw [q]; exact e
      · exact hw i (by omega)
end MP
