/-! count -/
def q_count (A : aS) (v : Int) : Option Int := if v = 0 then some (A 2 0) else if v = 1 then some (A 3 0) else if v = 2 then some (A 4 0) else if v = 3 then some (A 6 0) else if v = 4 then some (A 7 0) else if v = 5 then some (A 0 0) else if v = 6 then some (A 5 0) else if 7 ≤ v ∧ v < 12 then some (A 39 (v - 7).toNat) else none
def rC (e : Nat) (o : Option Int) : z_Out := match o with
  | some x => .inl (some (.int (iI x)))
  | none => .inr e
theorem sw_out {x : Int32} {d lo hi : Int} {offs : Array Int} {k : Int → z_Res} {v : Int} (hx : x.toInt = v) (h : v < lo ∨ hi < v) : z_sw x d lo hi offs k = k d := by
  unfold z_sw
  rw [hx, if_pos h]
theorem sw_in {x : Int32} {d lo hi o : Int} {offs : Array Int} {k : Int → z_Res} {v : Int} (hx : x.toInt = v) (h : ¬ (v < lo ∨ hi < v)) (ho : offs[(v - lo).toNat]? = some o) : z_sw x d lo hi offs k = k o := by
  unfold z_sw
  rw [hx, if_neg h, ho]
theorem c_count {p : Nat} {A : aS} {S : z_St} (h : CI p A S) (v : Int) (h1 : -2147483648 ≤ v) (h2 : v < 2147483648) (d : Nat) : z_ew (d + 2) 77 [.ref 0, .int (iI v)] S = some (rC 0 (q_count A v), S) := by
  rw [zx_77]
  by_cases hv : v < 0 ∨ 6 < v
  · rw [sw_out (iI_i h1 h2) hv]
    show z_R77 (d + 1) 999999 97 0 _ _ _ = _
    rw [zq_77_97, zx_102]
    simp only [zq_102_12, zq_102_23, iI_n, iI_sub]
    by_cases q : 7 ≤ v ∧ v < 12
    · obtain ⟨k, hk⟩ : ∃ k : Nat, v = k + 7 := ⟨(v - 7).toNat, by omega⟩
      subst hk
      rw [if_neg (by rw [iI_lt h1 h2 (by decide) (by decide)]; omega), if_pos (by rw [iI_lt h1 h2 (by decide) (by decide)]; omega)]
      have e : (k : Int) + 7 - ((7 : Nat) : Int) = k := by omega
      rw [e, iI_ixt (by omega) (by omega) (by decide), iI_t (by omega) (by omega), Int.toNat_natCast, c_39 h (by omega)]
      unfold q_count
      rw [if_neg (by omega), if_neg (by omega), if_neg (by omega), if_neg (by omega), if_neg (by omega), if_neg (by omega), if_neg (by omega), if_pos q]
      have e3 : ((k : Int) + 7 - 7).toNat = k := by omega
      rw [e3]
      rfl
    · have hq : q_count A v = none := by
        unfold q_count
        rw [if_neg (by omega), if_neg (by omega), if_neg (by omega), if_neg (by omega), if_neg (by omega), if_neg (by omega), if_neg (by omega), if_neg q]
      rw [hq]
      by_cases q7 : v < 7
      · rw [if_pos (by rw [iI_lt h1 h2 (by decide) (by decide)]; omega)]
        rfl
      · rw [if_neg (by rw [iI_lt h1 h2 (by decide) (by decide)]; omega), if_neg (by rw [iI_lt h1 h2 (by decide) (by decide)]; omega)]
        rfl
  · have hv2 : v = 0 ∨ v = 1 ∨ v = 2 ∨ v = 3 ∨ v = 4 ∨ v = 5 ∨ v = 6 := by omega
    rcases hv2 with rfl | rfl | rfl | rfl | rfl | rfl | rfl
    · rw [sw_in (iI_i h1 h2) hv rfl]
      show z_R77 (d + 1) 999999 44 0 _ _ _ = _
      rw [zq_77_44, h.p1, h.p2, h.p3, c_2 h]
      rfl
    · rw [sw_in (iI_i h1 h2) hv rfl]
      show z_R77 (d + 1) 999999 52 0 _ _ _ = _
      rw [zq_77_52, h.p1, h.p2, h.p3, c_3 h]
      rfl
    · rw [sw_in (iI_i h1 h2) hv rfl]
      show z_R77 (d + 1) 999999 60 0 _ _ _ = _
      rw [zq_77_60, c_4 h]
      rfl
    · rw [sw_in (iI_i h1 h2) hv rfl]
      show z_R77 (d + 1) 999999 68 0 _ _ _ = _
      rw [zq_77_68, c_6 h]
      rfl
    · rw [sw_in (iI_i h1 h2) hv rfl]
      show z_R77 (d + 1) 999999 76 0 _ _ _ = _
      rw [zq_77_76, c_7 h]
      rfl
    · rw [sw_in (iI_i h1 h2) hv rfl]
      show z_R77 (d + 1) 999999 84 0 _ _ _ = _
      rw [zq_77_84, c_0 h]
      rfl
    · rw [sw_in (iI_i h1 h2) hv rfl]
      show z_R77 (d + 1) 999999 89 0 _ _ _ = _
      rw [zq_77_89, c_5 h]
      rfl
