/-! the abstract memory seen in the heap -/
def z_v (ρ : Nat → Nat) : Value → Value
  | .ref a => .ref (ρ a)
  | v => v
def z_rv (ρ : Nat → Nat) (x : Int32) : Value := if x = -1 then .null else .ref (ρ x.toNatClampNeg)
def z_fv (ρ : Nat → Nat) (M : z_Mi) (a c k : Nat) : Value := match (z_ftg c k).1 with
  | 0 => .int (M a k)
  | 1 => z_rv ρ (M a k)
  | 2 => .ref (ρ (a + (z_ftg c k).2))
  | _ => .ref (ρ (z_ftg c k).2)
def z_fs (ρ : Nat → Nat) (M : z_Mi) (a : Nat) : List Value := (List.range (z_nf (z_oc a))).map (z_fv ρ M a (z_oc a))
def z_ce (ρ : Nat → Nat) (cA : Nat → ClassId) (S : z_St) (a : Nat) : va_E := match z_at a with
  | 0 => .inr (z_oc a, z_fs ρ S.1 a)
  | 4 => .inl (cA 4, z_ln a, .inr (.inl (S.2 a)))
  | 5 => .inl (cA 5, z_ln a, .inr (.inr (.inr (.inr (fun i => some (ρ (z_vs.getD i 0)))))))
  | t => .inl (cA t, z_ln a, .inl (S.1 a))
def z_wl (ρ : Nat → Nat) (cA : Nat → ClassId) (S : z_St) : va_W := (List.range z_n).map (fun a => (ρ a, z_ce ρ cA S a))
def z_tys (cA : Nat → ClassId) : List (ClassId × FieldType) := [(cA 1, .int), (cA 2, .byte), (cA 3, .boolean), (cA 4, .long), (cA 5, .object "java/lang/String")]
section ZW
variable {ρ : Nat → Nat} {cA : Nat → ClassId} {S S' : z_St}
theorem z_wl_len : (z_wl ρ cA S).length = z_n := by simp [z_wl]
theorem z_wl_get {a : Nat} (h : a < z_n) : (z_wl ρ cA S)[a]? = some (ρ a, z_ce ρ cA S a) := by
  simp [z_wl, h]
theorem z_wl_set {a : Nat} {e : va_E} (h : a < z_n) (he : z_ce ρ cA S' a = e) (ho : ∀ b, b < z_n → b ≠ a → z_ce ρ cA S' b = z_ce ρ cA S b) : (z_wl ρ cA S).set a (ρ a, e) = z_wl ρ cA S' := by
  apply List.ext_getElem?
  intro b
  rw [List.getElem?_set]
  by_cases hb : b < z_n
  · by_cases hab : a = b
    · subst hab
      rw [if_pos rfl, if_pos (by rw [z_wl_len]; exact h), z_wl_get h, he]
    · rw [if_neg hab, z_wl_get hb, z_wl_get hb, ho b hb (fun q => hab q.symm)]
  · have h1 : (z_wl ρ cA S)[b]? = none := List.getElem?_eq_none (by rw [z_wl_len]; omega)
    have h2 : (z_wl ρ cA S')[b]? = none := List.getElem?_eq_none (by rw [z_wl_len]; omega)
    by_cases hab : a = b
    · subst hab; exact absurd h hb
    · rw [if_neg hab, h1, h2]
theorem z_w1_at {M : z_Mi} {a i : Nat} {v : Int32} : z_w1 M a i v a = upd (M a) i v := by simp [z_w1]
theorem z_w1_ne {M : z_Mi} {a b i : Nat} {v : Int32} (h : b ≠ a) : z_w1 M a i v b = M b := by simp [z_w1, h]
theorem z_w2_at {M : z_Ml} {a i : Nat} {v : Int64} : z_w2 M a i v a = vp_updL (M a) i v := by simp [z_w2]
theorem z_w2_ne {M : z_Ml} {a b i : Nat} {v : Int64} (h : b ≠ a) : z_w2 M a i v b = M b := by simp [z_w2, h]
theorem z_c1_at {M : z_Mi} {a b i j k : Nat} : z_c1 M a b i j k b = va_cpy (M a) (M b) i j k := by simp [z_c1]
theorem z_c1_ne {M : z_Mi} {a b c i j k : Nat} (h : c ≠ b) : z_c1 M a b i j k c = M c := by simp [z_c1, h]
theorem z_c2_at {M : z_Ml} {a b i j k : Nat} : z_c2 M a b i j k b = va_cpy (M a) (M b) i j k := by simp [z_c2]
theorem z_c2_ne {M : z_Ml} {a b c i j k : Nat} (h : c ≠ b) : z_c2 M a b i j k c = M c := by simp [z_c2, h]
theorem z_fs_eq {M M' : z_Mi} {a : Nat} (h : M a = M' a) : z_fs ρ M a = z_fs ρ M' a := by
  have : z_fv ρ M a (z_oc a) = z_fv ρ M' a (z_oc a) := by funext k; simp [z_fv, h]
  simp [z_fs, this]
theorem z_ce_eq {a : Nat} (h1 : S.1 a = S'.1 a) (h2 : S.2 a = S'.2 a) : z_ce ρ cA S a = z_ce ρ cA S' a := by
  unfold z_ce; rw [z_fs_eq h1, h1, h2]
theorem z_ce_n {a t : Nat} (ht : z_at a = t) (h : t = 1 ∨ t = 2 ∨ t = 3) : z_ce ρ cA S a = .inl (cA t, z_ln a, .inl (S.1 a)) := by
  unfold z_ce; rw [ht]; rcases h with rfl | rfl | rfl <;> rfl
theorem z_ce_l {a : Nat} (ht : z_at a = 4) : z_ce ρ cA S a = .inl (cA 4, z_ln a, .inr (.inl (S.2 a))) := by unfold z_ce; rw [ht]; rfl
theorem z_ce_q {a : Nat} (ht : z_at a = 5) : z_ce ρ cA S a = .inl (cA 5, z_ln a, .inr (.inr (.inr (.inr (fun i => some (ρ (z_vs.getD i 0))))))) := by unfold z_ce; rw [ht]; rfl
theorem z_ce_o {a : Nat} (ht : z_at a = 0) : z_ce ρ cA S a = .inr (z_oc a, z_fs ρ S.1 a) := by unfold z_ce; rw [ht]; rfl
theorem z_set1 {a t i : Nat} {v : Int32} (ha : a < z_n) (ht : z_at a = t) (h : t = 1 ∨ t = 2 ∨ t = 3) : (z_wl ρ cA S).set a (ρ a, .inl (cA t, z_ln a, .inl (upd (S.1 a) i v))) = z_wl ρ cA (z_w1 S.1 a i v, S.2) :=
  z_wl_set ha (by rw [z_ce_n ht h]; dsimp only; rw [z_w1_at]) (fun b _ hb => z_ce_eq (z_w1_ne hb) rfl)
theorem z_set2 {a i : Nat} {v : Int64} (ha : a < z_n) (ht : z_at a = 4) : (z_wl ρ cA S).set a (ρ a, .inl (cA 4, z_ln a, .inr (.inl (vp_updL (S.2 a) i v)))) = z_wl ρ cA (S.1, z_w2 S.2 a i v) :=
  z_wl_set ha (by rw [z_ce_l ht]; dsimp only; rw [z_w2_at]) (fun b _ hb => z_ce_eq rfl (z_w2_ne hb))
theorem z_setc1 {a b i j k : Nat} (ha : b < z_n) (ht : z_at b = 1) : (z_wl ρ cA S).set b (ρ b, .inl (cA 1, z_ln b, .inl (va_cpy (S.1 a) (S.1 b) i j k))) = z_wl ρ cA (z_c1 S.1 a b i j k, S.2) :=
  z_wl_set ha (by rw [z_ce_n ht (Or.inl rfl)]; dsimp only; rw [z_c1_at]) (fun c _ hc => z_ce_eq (z_c1_ne hc) rfl)
theorem z_setc2 {a b i j k : Nat} (ha : b < z_n) (ht : z_at b = 4) : (z_wl ρ cA S).set b (ρ b, .inl (cA 4, z_ln b, .inr (.inl (va_cpy (S.2 a) (S.2 b) i j k)))) = z_wl ρ cA (S.1, z_c2 S.2 a b i j k) :=
  z_wl_set ha (by rw [z_ce_l ht]; dsimp only; rw [z_c2_at]) (fun c _ hc => z_ce_eq rfl (z_c2_ne hc))
theorem z_fs_get {M : z_Mi} {a k : Nat} (hk : k < z_nf (z_oc a)) : (z_fs ρ M a)[k]? = some (z_fv ρ M a (z_oc a) k) := by simp [z_fs, hk]
theorem z_fs_len {M : z_Mi} {a : Nat} : (z_fs ρ M a).length = z_nf (z_oc a) := by simp [z_fs]
theorem z_setf {a k : Nat} {x : Int32} {v : Value} (ha : a < z_n) (ht : z_at a = 0) (hk : k < z_nf (z_oc a)) (hv : z_fv ρ (z_w1 S.1 a k x) a (z_oc a) k = v) : (z_wl ρ cA S).set a (ρ a, .inr (z_oc a, (z_fs ρ S.1 a).set k v)) = z_wl ρ cA (z_w1 S.1 a k x, S.2) := by
  refine z_wl_set ha ?_ (fun b _ hb => z_ce_eq (z_w1_ne hb) rfl)
  rw [z_ce_o ht]
  congr 2
  apply List.ext_getElem?
  intro j
  rw [List.getElem?_set]
  by_cases hj : k = j
  · subst hj
    rw [if_pos rfl, if_pos (by rw [z_fs_len]; exact hk), z_fs_get hk, hv]
  · rw [if_neg hj]
    by_cases hjn : j < z_nf (z_oc a)
    · rw [z_fs_get hjn, z_fs_get hjn]
      have : z_w1 S.1 a k x a j = S.1 a j := by rw [z_w1_at]; simp [upd, Ne.symm hj]
      simp [z_fv, this]
    · rw [List.getElem?_eq_none (by rw [z_fs_len]; omega), List.getElem?_eq_none (by rw [z_fs_len]; omega)]
end ZW
theorem z_isO_ok : ∀ {c a : Nat}, c < 10 → z_isO c a = true → a < z_n ∧ z_at a = 0 ∧ z_oc a = c := by
  intro c a hc h
  have hc2 : c = 0 ∨ c = 1 ∨ c = 2 ∨ c = 3 ∨ c = 4 ∨ c = 5 ∨ c = 6 ∨ c = 7 ∨ c = 8 ∨ c = 9 := by omega
  rcases hc2 with rfl | rfl | rfl | rfl | rfl | rfl | rfl | rfl | rfl | rfl <;>
    (simp only [z_isO, Bool.or_eq_true, Nat.beq_eq] at h
     first
     | (rcases h with rfl | rfl <;> decide +kernel)
     | (subst h; decide +kernel))
theorem z_at_lt {a : Nat} (h : z_at a ≠ 0) : a < z_n := by
  apply Classical.byContradiction
  intro hn
  apply h
  have h1 : 117 ≤ a := by simpa [z_n] using hn
  have e : ∀ k, k ≤ 117 → Nat.blt a k = false := fun k hk => by
    cases hb : Nat.blt a k with
    | false => rfl
    | true => have := Nat.blt_eq.mp hb; omega
  simp [z_at, e]
theorem z_cls_get {c : Nat} (h : c < 10) : ∃ C T, z_cls[c]? = some (C, T, z_nf c) := by
  have hc2 : c = 0 ∨ c = 1 ∨ c = 2 ∨ c = 3 ∨ c = 4 ∨ c = 5 ∨ c = 6 ∨ c = 7 ∨ c = 8 ∨ c = 9 := by omega
  rcases hc2 with rfl | rfl | rfl | rfl | rfl | rfl | rfl | rfl | rfl | rfl <;> exact ⟨_, _, rfl⟩
