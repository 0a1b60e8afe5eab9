/-! a law of stops: pure, in the class, in the model -/
def rk (v : Int) (x y : Int32) : Int32 := if v = -20 then x + y else if v = -21 then x - y else if v = -22 then x * y else if v = -23 then (if y = 0 then nI 0 else x / y) else if v = -24 then (if y ≤ x then nI 0 else nI 1) else if v = -25 then (if x = y then nI 1 else nI 0) else if v = -26 then (if x = 0 then nI 0 else if y = 0 then nI 0 else nI 1) else (if x = 0 then (if y = 0 then nI 0 else nI 1) else nI 1)
def lst (v : Int) (ask : Nat → Int32) (s : List Int32) : List Int32 := if -20 < v then (if 0 ≤ v then iI v else ask (-1 - v).toNat) :: s else if v = -28 then (match s with | x :: t => (if x = 0 then nI 1 else nI 0) :: t | [] => []) else (match s with | y :: x :: t => rk v x y :: t | _ => [])
def lrun (c : Nat → Int) (ask : Nat → Int32) : Nat → Nat → List Int32 → List Int32
  | _, 0, s => s
  | f, n + 1, s => lrun c ask (f + 1) n (lst (c f) ask s)
def lres (s : List Int32) : Bool := match s with | [x] => !(decide (x = 0)) | _ => false
def stk (M : Nat → Int32) : List Int32 → Prop
  | [] => True
  | x :: t => M t.length = x ∧ stk M t
theorem stk_up {M M' : Nat → Int32} : ∀ s, stk M s → (∀ i, i < s.length → M' i = M i) → stk M' s
  | [], _, _ => trivial
  | x :: t, h, hq => ⟨(hq t.length (by show t.length < t.length + 1; omega)).trans h.1, stk_up t h.2 (fun i hi => hq i (by show i < t.length + 1; omega))⟩
section LAW
variable {p : Nat} {A : aS} {S S0 : z_St}
theorem opv {v : Int} (h1 : -27 ≤ v) (h2 : v ≤ -20) : v = -20 ∨ v = -21 ∨ v = -22 ∨ v = -23 ∨ v = -24 ∨ v = -25 ∨ v = -26 ∨ v = -27 := by omega
theorem m_rk (v : Int) (x y : Int32) (d : Nat) (h1 : -27 ≤ v) (h2 : v ≤ -20) : z_ew (d + 1) 147 [.int (iI v), .int x, .int y] S = some (.inl (some (.int (rk v x y))), S) := by
  rw [zx_147]
  rcases opv h1 h2 with rfl | rfl | rfl | rfl | rfl | rfl | rfl | rfl
  · rw [sw_in (iI_i (by decide) (by decide)) (by decide) rfl]
    show z_R147 d 999999 44 0 _ _ _ = _
    rw [zq_147_44]; rfl
  · rw [sw_in (iI_i (by decide) (by decide)) (by decide) rfl]
    show z_R147 d 999999 48 0 _ _ _ = _
    rw [zq_147_48]; rfl
  · rw [sw_in (iI_i (by decide) (by decide)) (by decide) rfl]
    show z_R147 d 999999 52 0 _ _ _ = _
    rw [zq_147_52]; rfl
  · rw [sw_in (iI_i (by decide) (by decide)) (by decide) rfl]
    show z_R147 d 999999 56 0 _ _ _ = some (.inl (some (.int (if y = 0 then nI 0 else x / y))), S)
    by_cases q : y = 0
    · rw [zq_147_56, if_pos q, if_pos q, zq_147_67]
    · rw [zq_147_56, if_neg q, if_neg q, zq_147_64, if_neg q, zq_147_67]
  · rw [sw_in (iI_i (by decide) (by decide)) (by decide) rfl]
    show z_R147 d 999999 68 0 _ _ _ = some (.inl (some (.int (if y ≤ x then nI 0 else nI 1))), S)
    by_cases q : y ≤ x
    · rw [zq_147_68, if_pos q, if_pos q, zq_147_77, zq_147_78]
    · rw [zq_147_68, if_neg q, if_neg q, zq_147_78]
  · rw [sw_in (iI_i (by decide) (by decide)) (by decide) rfl]
    show z_R147 d 999999 79 0 _ _ _ = some (.inl (some (.int (if x = y then nI 1 else nI 0))), S)
    by_cases q : x = y
    · rw [zq_147_79, if_pos q, if_pos q, zq_147_89]
    · rw [zq_147_79, if_neg q, if_neg q, zq_147_88, zq_147_89]
  · rw [sw_in (iI_i (by decide) (by decide)) (by decide) rfl]
    show z_R147 d 999999 90 0 _ _ _ = some (.inl (some (.int (if x = 0 then nI 0 else if y = 0 then nI 0 else nI 1))), S)
    by_cases q : x = 0
    · rw [zq_147_90, if_pos q, if_pos q, zq_147_102, zq_147_103]
    · by_cases q2 : y = 0
      · rw [zq_147_90, if_neg q, if_neg q, if_pos q2, if_pos q2, zq_147_102, zq_147_103]
      · rw [zq_147_90, if_neg q, if_neg q, if_neg q2, if_neg q2, zq_147_103]
  · rw [sw_out (iI_i (by decide) (by decide)) (by decide)]
    show z_R147 d 999999 104 0 _ _ _ = some (.inl (some (.int (if x = 0 then (if y = 0 then nI 0 else nI 1) else nI 1))), S)
    by_cases q : x = 0
    · by_cases q2 : y = 0
      · rw [zq_147_104, if_pos q, if_pos q, if_pos q2, if_pos q2, zq_147_116, zq_147_117]
      · rw [zq_147_104, if_pos q, if_pos q, if_neg q2, if_neg q2, zq_147_112, zq_147_117]
    · rw [zq_147_104, if_neg q, if_neg q, zq_147_112, zq_147_117]
def lks (v : Int) : Nat := z_tg 1 (Op.lookupswitch.offset (#[(38, 81), (42, 125), (43, 117), (45, 121), (60, 95), (61, 106), (124, 67)] : Array (Int × Int)).toList 129 (Int32.toInt (-(iI (enc v)))))
theorem lks_t : lks (-20) = 118 ∧ lks (-21) = 122 ∧ lks (-22) = 126 ∧ lks (-23) = 130 ∧ lks (-24) = 96 ∧ lks (-25) = 107 ∧ lks (-26) = 82 ∧ lks (-27) = 68 := by decide +kernel
theorem c_rk (v : Int) (x y : Int32) (d : Nat) (h1 : -27 ≤ v) (h2 : v ≤ -20) : z_ew (d + 1) 2 [.int (-(iI (enc v))), .int x, .int y] S = some (.inl (some (.int (rk v x y))), S) := by
  rw [zx_2]
  show z_R2 d 999999 (lks v) 0 _ _ _ = _
  obtain ⟨t0, t1, t2, t3, t4, t5, t6, t7⟩ := lks_t
  rcases opv h1 h2 with rfl | rfl | rfl | rfl | rfl | rfl | rfl | rfl
  · rw [t0, zq_2_118]; rfl
  · rw [t1, zq_2_122]; rfl
  · rw [t2, zq_2_126]; rfl
  · rw [t3]
    show _ = (some (Sum.inl (some (Value.int (if y = 0 then nI 0 else x / y))), S) : z_Res)
    by_cases q : y = 0
    · rw [zq_2_130, if_pos q, if_pos q, zq_2_141]
    · rw [zq_2_130, if_neg q, if_neg q, zq_2_138, if_neg q, zq_2_141]
  · rw [t4]
    show _ = (some (Sum.inl (some (Value.int (if y ≤ x then nI 0 else nI 1))), S) : z_Res)
    by_cases q : y ≤ x
    · rw [zq_2_96, if_pos q, if_pos q, zq_2_105, zq_2_106]
    · rw [zq_2_96, if_neg q, if_neg q, zq_2_106]
  · rw [t5]
    show _ = (some (Sum.inl (some (Value.int (if x = y then nI 1 else nI 0))), S) : z_Res)
    by_cases q : x = y
    · rw [zq_2_107, if_pos q, if_pos q, zq_2_117]
    · rw [zq_2_107, if_neg q, if_neg q, zq_2_116, zq_2_117]
  · rw [t6]
    show _ = (some (Sum.inl (some (Value.int (if x = 0 then nI 0 else if y = 0 then nI 0 else nI 1))), S) : z_Res)
    by_cases q : x = 0
    · rw [zq_2_82, if_pos q, if_pos q, zq_2_94, zq_2_95]
    · by_cases q2 : y = 0
      · rw [zq_2_82, if_neg q, if_neg q, if_pos q2, if_pos q2, zq_2_94, zq_2_95]
      · rw [zq_2_82, if_neg q, if_neg q, if_neg q2, if_neg q2, zq_2_95]
  · rw [t7]
    show _ = (some (Sum.inl (some (Value.int (if x = 0 then (if y = 0 then nI 0 else nI 1) else nI 1))), S) : z_Res)
    by_cases q : x = 0
    · by_cases q2 : y = 0
      · rw [zq_2_68, if_pos q, if_pos q, if_pos q2, if_pos q2, zq_2_80, zq_2_81]
      · rw [zq_2_68, if_pos q, if_pos q, if_neg q2, if_neg q2, zq_2_76, zq_2_81]
    · rw [zq_2_68, if_neg q, if_neg q, zq_2_76, zq_2_81]
def Lw (S0 S : z_St) (s : List Int32) : Prop := S.1 52 2 = iI (s.length : Int) ∧ stk (S.1 54) s ∧ (∀ a i, a ≠ 54 → (a ≠ 52 ∨ i ≠ 2) → S.1 a i = S0.1 a i) ∧ S.2 = S0.2
theorem c_push {s : List Int32} (h : Lw S0 S s) (v : Int32) (hl : s.length < 64) (d : Nat) : ∃ S', z_ew (d + 1) 3 [.ref 52, .int v] S = some (.inl none, S') ∧ Lw S0 S' (v :: s) := by
  obtain ⟨h1, h2, h3, h4⟩ := h
  refine ⟨(z_w1 (z_w1 S.1 54 s.length v) 52 2 (iI ((s.length + 1 : Nat) : Int)), S.2), ?_, ?_, ⟨?_, ?_⟩, ?_, h4⟩
  · rw [zx_3, h1, iI_n 64, if_neg (by rw [iI_le (by decide) (by decide) (by omega) (by omega)]; omega), ixN hl (by decide), cond_true, tN (by omega), zq_3_32, iI_n 1, iI_add]
    rfl
  · dsimp only
    rw [z_w1_r, if_pos ⟨rfl, rfl⟩]
    rfl
  · dsimp only
    rw [z_w1_r, if_neg (by omega), z_w1_r, if_pos ⟨rfl, rfl⟩]
  · refine stk_up s h2 (fun i hi => ?_)
    dsimp only
    rw [z_w1_r, if_neg (by omega), z_w1_r, if_neg (by omega)]
  · intro a i q1 q2
    dsimp only
    rw [z_w1_r, if_neg (by omega), z_w1_r, if_neg (by omega)]
    exact h3 a i q1 q2
theorem c_pop {x : Int32} {s : List Int32} (h : Lw S0 S (x :: s)) (hl : s.length < 64) (d : Nat) : ∃ S', z_ew (d + 1) 4 [.ref 52] S = some (.inl (some (.int x)), S') ∧ Lw S0 S' s := by
  obtain ⟨h1, ⟨h5, h2⟩, h3, h4⟩ := h
  have h1 : S.1 52 2 = iI ((s.length + 1 : Nat) : Int) := h1
  have e : ((s.length + 1 : Nat) : Int) - ((1 : Nat) : Int) = (s.length : Int) := by omega
  refine ⟨(z_w1 S.1 52 2 (iI (s.length : Int)), S.2), ?_, ?_, ?_, ?_, h4⟩
  · rw [zx_4, h1, iI_n 1, if_pos (by rw [iI_le (by decide) (by decide) (by omega) (by omega)]; omega), zq_4_10, h1, iI_n 1, iI_sub, e, ixN hl (by decide), cond_true, tN (by omega), h5]
  · dsimp only
    rw [z_w1_r, if_pos ⟨rfl, rfl⟩]
  · refine stk_up s h2 (fun i hi => ?_)
    dsimp only
    rw [z_w1_r, if_neg (by omega)]
  · intro a i q1 q2
    dsimp only
    rw [z_w1_r, if_neg (by omega)]
    exact h3 a i q1 q2
theorem enc_r {v : Int} (h1 : -27 ≤ v) (h2 : v ≤ -20) : -124 ≤ enc v ∧ enc v ≤ -38 := by
  rcases opv h1 h2 with rfl | rfl | rfl | rfl | rfl | rfl | rfl | rfl <;> decide
theorem c_obey {ask : Nat → Int32} (ha : ∀ i, i < 7 → S0.1 53 i = ask i) {s : List Int32} (h : Lw S0 S s) {v : Int} (hv : cok v) (h1 : -20 < v → s.length < 60) (h2 : v = -28 → 1 ≤ s.length) (h3 : v ≤ -20 → v ≠ -28 → 2 ≤ s.length) (h4 : s.length ≤ 60) (d : Nat) : ∃ S', z_ew (d + 2) 1 [.ref 52, .int (iI (enc v))] S = some (.inl none, S') ∧ Lw S0 S' (lst v ask s) := by
  obtain ⟨v1, v2, v3⟩ := hv
  have hn33 : -nI 33 = iI (-33) := rfl
  rw [zx_1, hn33]
  unfold lst
  by_cases q : -20 < v
  · rw [if_pos q]
    by_cases q0 : 0 ≤ v
    · have e : enc v = v := by unfold enc; rw [if_pos q0]
      obtain ⟨S', g1, g2⟩ := c_push h (iI v) (by omega) d
      refine ⟨S', ?_, by rw [if_pos q0]; exact g2⟩
      rw [e, if_neg (by rw [iI_eq (by omega) (by omega) (by decide) (by decide)]; omega), zq_1_25, iI_0, if_pos (by rw [iI_le (by decide) (by decide) (by omega) (by omega)]; exact q0), zq_1_53, iI_n 10000, if_neg (by rw [iI_le (by decide) (by decide) (by omega) (by omega)]; omega), g1, clv_v, zq_1_92]
    · have e : enc v = 9999 - v := by unfold enc; rw [if_neg q0, if_pos (by omega)]
      obtain ⟨k, hk⟩ : ∃ k : Nat, v = -1 - k := ⟨(-1 - v).toNat, by omega⟩
      have e2 : (-1 - v).toNat = k := by omega
      obtain ⟨S', g1, g2⟩ := c_push h (ask k) (by omega) d
      have e3 : (9999 - v) - ((10000 : Nat) : Int) = (k : Int) := by omega
      refine ⟨S', ?_, by rw [if_neg q0, e2]; exact g2⟩
      rw [e, if_neg (by rw [iI_eq (by omega) (by omega) (by decide) (by decide)]; omega), zq_1_25, iI_0, if_pos (by rw [iI_le (by decide) (by decide) (by omega) (by omega)]; omega), zq_1_53, iI_n 10000, if_pos (by rw [iI_le (by decide) (by decide) (by omega) (by omega)]; omega), zq_1_68, iI_n 10000, iI_sub, e3, iI_n 7, if_neg (by rw [iI_le (by decide) (by decide) (by omega) (by omega)]; omega), ixN (by omega) (by decide), cond_true, tN (by omega), h.2.2.1 53 k (by decide) (by omega), ha k (by omega), g1, clv_v, zq_1_92]
  · rw [if_neg q]
    by_cases q28 : v = -28
    · subst q28
      rw [if_pos (by decide), if_pos rfl]
      cases s with
      | nil => exact absurd (h2 rfl) (by decide)
      | cons x t =>
        have ht : t.length + 1 ≤ 60 := h4
        obtain ⟨S1, g1, g2⟩ := c_pop h (by omega) d
        rw [g1, cli_i]
        by_cases qx : x = 0
        · obtain ⟨S2, g3, g4⟩ := c_push g2 (nI 1) (by omega) d
          refine ⟨S2, ?_, by dsimp only; rw [if_pos qx]; exact g4⟩
          rw [if_pos qx, zq_1_19, g3, clv_v, zq_1_92]
        · obtain ⟨S2, g3, g4⟩ := c_push g2 (nI 0) (by omega) d
          refine ⟨S2, ?_, by dsimp only; rw [if_neg qx]; exact g4⟩
          rw [if_neg qx, zq_1_18, zq_1_19, g3, clv_v, zq_1_92]
    · rw [if_neg q28]
      have hr := enc_r (v := v) (by omega) (by omega)
      have hl2 := h3 (by omega) q28
      match s, h, hl2, h4 with
      | y :: x :: t, h, _, h4 =>
        have ht : t.length + 1 + 1 ≤ 60 := h4
        obtain ⟨S1, g1, g2⟩ := c_pop h (by show t.length + 1 < 64; omega) d
        obtain ⟨S2, g3, g4⟩ := c_pop g2 (by omega) d
        obtain ⟨S3, g5, g6⟩ := c_push g4 (rk v x y) (by omega) d
        refine ⟨S3, ?_, g6⟩
        rw [if_neg (by rw [iI_eq (by omega) (by omega) (by decide) (by decide)]; omega), zq_1_25, iI_0, if_neg (by rw [iI_le (by decide) (by decide) (by omega) (by omega)]; omega), g1, cli_i, g3, cli_i, c_rk v x y d (by omega) (by omega), cli_i, g5, clv_v, zq_1_92]
theorem cdh_s {c : Nat → Int} {f n h e : Nat} (hq : cdh c f (n + 1) h = some e) : (-20 < c f ∧ h < 60 ∧ cdh c (f + 1) n (h + 1) = some e) ∨ (c f = -28 ∧ 1 ≤ h ∧ cdh c (f + 1) n h = some e) ∨ (c f ≤ -20 ∧ c f ≠ -28 ∧ 2 ≤ h ∧ cdh c (f + 1) n (h - 1) = some e) := by
  have hq : (if -20 < c f then (if h < 60 then cdh c (f + 1) n (h + 1) else none) else if c f = -28 then (if 1 ≤ h then cdh c (f + 1) n h else none) else if 2 ≤ h then cdh c (f + 1) n (h - 1) else none) = some e := hq
  by_cases q : -20 < c f
  · rw [if_pos q] at hq
    by_cases q2 : h < 60
    · rw [if_pos q2] at hq; exact Or.inl ⟨q, q2, hq⟩
    · rw [if_neg q2] at hq; cases hq
  · rw [if_neg q] at hq
    by_cases q3 : c f = -28
    · rw [if_pos q3] at hq
      by_cases q2 : 1 ≤ h
      · rw [if_pos q2] at hq; exact Or.inr (Or.inl ⟨q3, q2, hq⟩)
      · rw [if_neg q2] at hq; cases hq
    · rw [if_neg q3] at hq
      by_cases q2 : 2 ≤ h
      · rw [if_pos q2] at hq; exact Or.inr (Or.inr ⟨by omega, q3, q2, hq⟩)
      · rw [if_neg q2] at hq; cases hq
theorem lst_l {c : Nat → Int} {ask : Nat → Int32} {f n e : Nat} {s : List Int32} (hq : cdh c f (n + 1) s.length = some e) : cdh c (f + 1) n (lst (c f) ask s).length = some e := by
  unfold lst
  rcases cdh_s hq with ⟨h1, h2, h3⟩ | ⟨h1, h2, h3⟩ | ⟨h1, h2, h3, h4⟩
  · rw [if_pos h1]; exact h3
  · rw [if_neg (by omega), if_pos h1]
    cases s with
    | nil => exact absurd h2 (by decide)
    | cons x t => exact h3
  · rw [if_neg (by omega), if_neg h2]
    match s, h3, h4 with
    | y :: x :: t, _, h4 => exact h4
theorem lrun_l {c : Nat → Int} {ask : Nat → Int32} {e : Nat} : ∀ (n f : Nat) (s : List Int32), cdh c f n s.length = some e → (lrun c ask f n s).length = e
  | 0, _, _, h => by injection h
  | n + 1, f, s, h => lrun_l n (f + 1) _ (lst_l h)
/-- the class's walk over a law -/
theorem c_run {c : Nat → Int} {ask : Nat → Int32} {q t e : Nat} (hb : Nat.beq q 1100 = false) (hat : z_at q = 1) (hln : z_ln q = 700) (hq54 : q ≠ 54) (hq52 : q ≠ 52) (ht : t ≤ 700) (hc : ∀ k, k < t → S0.1 q k = iI (enc (c k))) (hok : ∀ k, k < t → cok (c k)) (ha : ∀ i, i < 7 → S0.1 53 i = ask i) (d z : Nat) : ∀ (n f m : Nat) (S : z_St) (s : List Int32) (x2 : Option Value), f + n = t → n + 4 ≤ m → s.length ≤ 60 → cdh c f n s.length = some e → Lw S0 S s → ∃ S' m', z_R0 (d + 2) m 12 z [some (.ref 52), some (.ref q), x2, some (.int (iI (t : Int))), some (.int (iI (f : Int)))] [] S = z_R0 (d + 2) (m' + 3) 39 z [some (.ref 52), some (.ref q), none, some (.int (iI (t : Int))), some (.int (iI (t : Int)))] [] S' ∧ Lw S0 S' (lrun c ask f n s) := by
  intro n
  induction n with
  | zero =>
    intro f m S s x2 hf hm hl _ h
    obtain ⟨m, rfl⟩ : ∃ m', m = m' + 4 := ⟨m - 4, by omega⟩
    have e : f = t := by omega
    subst e
    refine ⟨S, m, ?_, h⟩
    rw [zq_0_12, if_pos (by rw [iI_le (by omega) (by omega) (by omega) (by omega)]; omega)]
  | succ n ih =>
    intro f m S s x2 hf hm hl hd h
    obtain ⟨m, rfl⟩ : ∃ m', m = m' + 1 := ⟨m - 1, by omega⟩
    have e2 : (f : Int) + ((1 : Nat) : Int) = ((f + 1 : Nat) : Int) := by omega
    have hs := cdh_s hd
    obtain ⟨S1, g1, g2⟩ := c_obey ha h (hok f (by omega)) (fun q => by omega) (fun q => by omega) (fun q q2 => by omega) hl d
    have hl2 : (lst (c f) ask s).length ≤ 60 := by
      unfold lst
      rcases hs with ⟨q1, q2, -⟩ | ⟨q1, q2, -⟩ | ⟨q1, q2, q3, -⟩
      · rw [if_pos q1]; show s.length + 1 ≤ 60; omega
      · rw [if_neg (by omega), if_pos q1]
        cases s with
        | nil => decide
        | cons x t => exact hl
      · rw [if_neg (by omega), if_neg q2]
        match s, hl with
        | y :: x :: t, hl =>
          have hl : t.length + 1 + 1 ≤ 60 := hl
          show t.length + 1 ≤ 60
          omega
        | [x], _ => exact Nat.zero_le 60
        | [], _ => exact Nat.zero_le 60
    obtain ⟨S2, m2, g3, g4⟩ := ih (f + 1) m S1 _ none (by omega) (by omega) hl2 (lst_l hd) g2
    refine ⟨S2, m2, ?_, g4⟩
    rw [zq_0_12, if_neg (by rw [iI_le (by omega) (by omega) (by omega) (by omega)]; omega), hb, cond_false]
    refine (cond_t (by rw [hat]; rfl)).trans ?_
    rw [hln, iI_n 700, if_neg (by rw [iI_le (by decide) (by decide) (by omega) (by omega)]; omega)]
    refine (cond_t (by rw [hat, ixN (by omega) (by decide)]; rfl)).trans ?_
    rw [tN (by omega), h.2.2.1 q f hq54 (Or.inl hq52), hc f (by omega), g1, clv_v, iI_n 1, iI_add, e2]
    exact g3
theorem c_hold {c : Nat → Int} {ask : Nat → Int32} {q f t : Nat} (hb : Nat.beq q 1100 = false) (hat : z_at q = 1) (hln : z_ln q = 700) (hq54 : q ≠ 54) (hq52 : q ≠ 52) (hft : f ≤ t) (ht : t ≤ 700) (hc : ∀ k, k < t → S0.1 q k = iI (enc (c k))) (hok : ∀ k, k < t → cok (c k)) (ha : ∀ i, i < 7 → S0.1 53 i = ask i) (hd : cdh c f (t - f) 0 = some 1) (d : Nat) : ∃ S', z_ew (d + 3) 0 [.ref 52, .ref q, .int (iI (f : Int)), .int (iI (t : Int))] S0 = some (.inl (some (.int (iI (if lres (lrun c ask f (t - f) []) = true then 1 else 0)))), S') ∧ (∀ a i, a ≠ 54 → (a ≠ 52 ∨ i ≠ 2) → S'.1 a i = S0.1 a i) ∧ S'.2 = S0.2 := by
  have h0 : Lw S0 (z_w1 S0.1 52 2 (nI 0), S0.2) [] := ⟨by dsimp only; rw [z_w1_r, if_pos ⟨rfl, rfl⟩]; rfl, trivial, fun a i q1 q2 => by dsimp only; rw [z_w1_r, if_neg (by omega)], rfl⟩
  obtain ⟨S1, m, g1, g2⟩ := c_run hb hat hln hq54 hq52 ht hc hok ha d 0 (t - f) f 999999 _ [] (some (.int (iI (f : Int)))) (by omega) (by omega) (by decide) hd h0
  have hl := lrun_l (ask := ask) (t - f) f [] hd
  have hm : mxI ((0 : Nat) : Int) (f : Int) = (f : Int) := by
    unfold mxI
    by_cases q : ((0 : Nat) : Int) < f
    · rw [if_pos q]
    · rw [if_neg q]; omega
  obtain ⟨x, hx⟩ : ∃ x, lrun c ask f (t - f) [] = [x] := by
    match lrun c ask f (t - f) [], hl with
    | [x], _ => exact ⟨x, rfl⟩
  rw [hx] at g2 ⊢
  obtain ⟨S2, g3, g4⟩ := c_pop g2 (by decide) (d + 1)
  refine ⟨S2, ?_, g4.2.2.1, g4.2.2.2⟩
  rw [zx_0, iI_n 0, zy_187 (d + 1) _ _ _ (by decide) (by decide) (by omega) (by omega), hm, cli_i, show (iI ((0 : Nat) : Int)) = nI 0 from rfl, g1, zq_0_39, g3, cli_i]
  show _ = (some (Sum.inl (some (Value.int (iI (if (!(decide (x = 0))) = true then 1 else 0)))), S2) : z_Res)
  by_cases qx : x = 0
  · rw [if_pos qx, zq_0_50, zq_0_51, rbn0, cond_true, if_neg (by simp [qx])]
    rfl
  · rw [if_neg qx, zq_0_51, rbn1, cond_true, if_pos (by simp [qx])]
    rfl
end LAW
