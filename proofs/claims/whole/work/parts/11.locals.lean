/-! the locals -/
theorem z_lg_lt : ∀ {L : z_Lo} {i : Nat} {v : Value}, z_lg L i = some v → i < L.length
  | [], _, _, h => by cases h
  | _ :: _, 0, _, _ => Nat.zero_lt_succ _
  | _ :: L, i + 1, _, h => Nat.succ_lt_succ (z_lg_lt (L := L) h)
theorem z_ls_len : ∀ (L : z_Lo) (i : Nat) (o : Option Value), (z_ls L i o).length = L.length
  | [], _, _ => rfl
  | _ :: _, 0, _ => rfl
  | _ :: L, i + 1, o => congrArg (· + 1) (z_ls_len L i o)
theorem z_lg_at : ∀ (L : z_Lo) (i : Nat) (o : Option Value), i < L.length → z_lg (z_ls L i o) i = o
  | [], _, _, h => absurd h (Nat.not_lt_zero _)
  | _ :: _, 0, _, _ => rfl
  | _ :: L, i + 1, o, h => z_lg_at L i o (Nat.lt_of_succ_lt_succ h)
theorem z_lg_ne : ∀ (L : z_Lo) (i j : Nat) (o : Option Value), j ≠ i → z_lg (z_ls L i o) j = z_lg L j
  | [], _, _, _, _ => rfl
  | _ :: _, 0, 0, _, h => absurd rfl h
  | _ :: _, 0, _ + 1, _, _ => rfl
  | _ :: _, _ + 1, 0, _, _ => rfl
  | _ :: L, i + 1, j + 1, o, h => z_lg_ne L i j o (fun q => h (by rw [q]))
theorem z_fx_len (L : z_Lo) (i : Nat) : (z_fx L i).length = L.length := by
  unfold z_fx
  split
  · rfl
  · split
    · exact z_ls_len _ _ _
    · exact z_ls_len _ _ _
    · rfl
theorem z_fx_sub {L : z_Lo} {i j : Nat} {v : Value} (h : z_lg (z_fx L i) j = some v) : z_lg L j = some v ∧ ¬ (j + 1 = i ∧ v.category = 2) := by
  unfold z_fx at h
  split at h
  · exact ⟨h, fun q => by omega⟩
  · rename_i k
    split at h
    · rename_i x hx
      by_cases hj : j = k
      · subst hj; rw [z_lg_at _ _ _ (z_lg_lt hx)] at h; cases h
      · rw [z_lg_ne _ _ _ _ hj] at h; exact ⟨h, fun q => by omega⟩
    · rename_i x hx
      by_cases hj : j = k
      · subst hj; rw [z_lg_at _ _ _ (z_lg_lt hx)] at h; cases h
      · rw [z_lg_ne _ _ _ _ hj] at h; exact ⟨h, fun q => by omega⟩
    · rename_i h1 h2
      refine ⟨h, fun q => ?_⟩
      have hj : j = k := by omega
      subst hj
      cases v with
      | long x => exact h1 x h
      | double x => exact h2 x h
      | _ => simp [Value.category] at q
def z_lr (ρ : Nat → Nat) (ls : Array Slot) (nL : Nat) (L : z_Lo) : Prop := ls.size = nL ∧ lv_wf ls ∧ L.length ≤ nL ∧ ∀ (i : Nat) (v : Value), z_lg L i = some v → ls[i]? = some (.val (z_v ρ v))
def z_lv (ρ : Nat → Nat) (L : z_Lo) : List (Nat × Value) := (List.range L.length).filterMap (fun i => (z_lg L i).map (fun v => (i, z_v ρ v)))
theorem z_lv_mem {ρ : Nat → Nat} {L : z_Lo} {i : Nat} {v : Value} (h : z_lg L i = some v) : (i, z_v ρ v) ∈ z_lv ρ L :=
  List.mem_filterMap.mpr ⟨i, List.mem_range.mpr (z_lg_lt h), by rw [h]; rfl⟩
theorem z_lr_has {ρ : Nat → Nat} {ls : Array Slot} {nL : Nat} {L : z_Lo} (h : z_lr ρ ls nL L) : lv_has ls nL (z_lv ρ L) := by
  refine ⟨h.1, h.2.1, fun q hq => ?_⟩
  obtain ⟨i, -, hi⟩ := List.mem_filterMap.mp hq
  cases hg : z_lg L i with
  | none => rw [hg] at hi; cases hi
  | some v =>
    rw [hg] at hi
    cases hi
    exact h.2.2.2 i v hg
theorem z_vcat (ρ : Nat → Nat) (v : Value) : (z_v ρ v).category = v.category := by cases v <;> rfl
theorem z_lr_s1 {ρ : Nat → Nat} {ls : Array Slot} {nL i : Nat} {L : z_Lo} {v : Value} (hL : L.length ≤ nL) (h : lv_has ls nL ((i, z_v ρ v) :: (z_lv ρ L).filter (fun q => !(q.1 == i) && !(q.1 + 1 == i && q.2.category == 2)))) : z_lr ρ ls nL (z_s1 L i v) := by
  refine ⟨h.1, h.2.1, by unfold z_s1; rw [z_ls_len, z_fx_len]; exact hL, fun j w hj => ?_⟩
  by_cases hji : j = i
  · subst hji
    have hlt := z_lg_lt hj
    unfold z_s1 at hj hlt
    rw [z_ls_len] at hlt
    rw [z_lg_at _ _ _ hlt] at hj
    cases hj
    exact h.2.2 _ List.mem_cons_self
  · unfold z_s1 at hj
    rw [z_lg_ne _ _ _ _ hji] at hj
    obtain ⟨h1, h2⟩ := z_fx_sub hj
    refine h.2.2 (j, z_v ρ w) (List.mem_cons_of_mem _ (List.mem_filter.mpr ⟨z_lv_mem h1, ?_⟩))
    simp only [z_vcat]
    simp only [Bool.and_eq_true, Bool.not_eq_true', beq_eq_false_iff_ne, ne_eq, Bool.and_eq_false_iff]
    refine ⟨hji, ?_⟩
    by_cases hq : j + 1 = i
    · right; intro hc; exact h2 ⟨hq, hc⟩
    · left; exact hq
theorem z_lr_s2 {ρ : Nat → Nat} {ls : Array Slot} {nL i : Nat} {L : z_Lo} {v : Value} (hL : L.length ≤ nL) (hi : i + 1 < L.length) (h : lv_has ls nL ((i, z_v ρ v) :: (z_lv ρ L).filter (fun q => !(q.1 == i) && (!(q.1 == i + 1) && !(q.1 + 1 == i && q.2.category == 2))))) : z_lr ρ ls nL (z_s2 L i v) := by
  refine ⟨h.1, h.2.1, by unfold z_s2; rw [z_ls_len, z_ls_len, z_fx_len]; exact hL, fun j w hj => ?_⟩
  unfold z_s2 at hj
  by_cases hj1 : j = i + 1
  · subst hj1
    rw [z_lg_at _ _ _ (by rw [z_ls_len, z_fx_len]; exact hi)] at hj
    cases hj
  · rw [z_lg_ne _ _ _ _ hj1] at hj
    by_cases hji : j = i
    · subst hji
      rw [z_lg_at _ _ _ (by rw [z_fx_len]; omega)] at hj
      cases hj
      exact h.2.2 _ List.mem_cons_self
    · rw [z_lg_ne _ _ _ _ hji] at hj
      obtain ⟨h1, h2⟩ := z_fx_sub hj
      refine h.2.2 (j, z_v ρ w) (List.mem_cons_of_mem _ (List.mem_filter.mpr ⟨z_lv_mem h1, ?_⟩))
      simp only [z_vcat]
      simp only [Bool.and_eq_true, Bool.not_eq_true', beq_eq_false_iff_ne, ne_eq, Bool.and_eq_false_iff]
      refine ⟨hji, hj1, ?_⟩
      by_cases hq : j + 1 = i
      · right; intro hc; exact h2 ⟨hq, hc⟩
      · left; exact hq
theorem z_mk_sub : ∀ (mk : List Bool) (L : z_Lo) (i : Nat) (v : Value), z_lg (z_mk mk L) i = some v → z_lg L i = some v
  | [], L, i, v, h => by cases L <;> cases h
  | true :: bs, [], i, v, h => by cases h
  | false :: bs, [], i, v, h => by cases h
  | true :: bs, a :: L, 0, v, h => h
  | true :: bs, a :: L, i + 1, v, h => z_mk_sub bs L i v h
  | false :: bs, a :: L, 0, v, h => by cases h
  | false :: bs, a :: L, i + 1, v, h => z_mk_sub bs L i v h
theorem z_mk_len : ∀ (mk : List Bool) (L : z_Lo), (z_mk mk L).length ≤ L.length
  | [], L => by cases L <;> simp [z_mk]
  | true :: bs, [] => Nat.le_refl _
  | false :: bs, [] => Nat.le_refl _
  | true :: bs, a :: L => Nat.succ_le_succ (z_mk_len bs L)
  | false :: bs, a :: L => Nat.succ_le_succ (z_mk_len bs L)
theorem z_lr_mk {ρ : Nat → Nat} {ls : Array Slot} {nL : Nat} {L : z_Lo} (mk : List Bool) (h : z_lr ρ ls nL L) : z_lr ρ ls nL (z_mk mk L) :=
  ⟨h.1, h.2.1, Nat.le_trans (z_mk_len mk L) h.2.2.1, fun i v hv => h.2.2.2 i v (z_mk_sub mk L i v hv)⟩
/-! the entry -/
theorem z_sl_args (ρ : Nat → Nat) : ∀ (as : List Value) (o i : Nat) (v : Value), z_lg (z_sl as) i = some v → (o + i, z_v ρ v) ∈ lv_args o (as.map (z_v ρ))
  | [], _, _, _, h => by cases h
  | a :: as, o, i, v, h => by
    have e1 : (z_v ρ a).category = a.category := z_vcat ρ a
    rcases lv_cat a with hc | hc
    · have hs : z_sl (a :: as) = some a :: z_sl as := by cases a <;> first | rfl | (simp [Value.category] at hc)
      rw [hs] at h
      cases i with
      | zero => cases h; exact List.mem_cons_self
      | succ i =>
        have := z_sl_args ρ as (o + 1) i v h
        simp only [List.map_cons, lv_args, e1, hc]
        refine List.mem_cons_of_mem _ ?_
        rw [if_neg (by omega), show o + (i + 1) = o + 1 + i by omega]; exact this
    · have hs : z_sl (a :: as) = some a :: none :: z_sl as := by cases a <;> first | rfl | (simp [Value.category] at hc)
      rw [hs] at h
      cases i with
      | zero => cases h; exact List.mem_cons_self
      | succ i =>
        cases i with
        | zero => cases h
        | succ i =>
          have := z_sl_args ρ as (o + 2) i v h
          simp only [List.map_cons, lv_args, e1, hc]
          refine List.mem_cons_of_mem _ ?_
          rw [if_pos trivial, show o + (i + 1 + 1) = o + 2 + i by omega]; exact this
theorem z_lg_take : ∀ (n : Nat) (L : z_Lo) (i : Nat) (v : Value), z_lg (L.take n) i = some v → z_lg L i = some v
  | 0, L, i, v, h => by simp [z_lg] at h
  | n + 1, [], i, v, h => by cases h
  | n + 1, a :: L, 0, v, h => h
  | n + 1, a :: L, i + 1, v, h => z_lg_take n L i v h
theorem z_lg_app : ∀ (L : z_Lo) (k i : Nat) (v : Value), z_lg (L ++ List.replicate k none) i = some v → z_lg L i = some v
  | [], k, i, v, h => by
    have : ∀ (k i : Nat), z_lg (List.replicate k none) i ≠ some v := by
      intro k
      induction k with
      | zero => intro i h; cases h
      | succ k ih =>
        intro i h
        cases i with
        | zero => cases h
        | succ i => exact ih i h
    exact absurd h (this k i)
  | a :: L, k, 0, v, h => h
  | a :: L, k, i + 1, v, h => z_lg_app L k i v h
theorem z_in_lr {ρ : Nat → Nat} {n : Nat} {as : List Value} {ls : Array Slot} (h : lv_has ls n (lv_args 0 (as.map (z_v ρ)))) : z_lr ρ ls n (z_in n as) := by
  refine ⟨h.1, h.2.1, by unfold z_in; exact List.length_take_le _ _, fun i v hv => ?_⟩
  have h1 := z_lg_app _ _ _ _ (z_lg_take _ _ _ _ hv)
  have h2 := z_sl_args ρ as 0 i v h1
  rw [Nat.zero_add] at h2
  exact h.2.2 _ h2
