/-! the row of a book's looks, by hours: the class -/
theorem fillL {r N : Nat} {v : Int32} (h2 : z_at r = 1) (h3 : z_ln r = N) (hN : N < 2000000) (d z : Nat) : ∀ (k i n : Nat) (S : z_St), i + k = N → k + 2 ≤ n → ∃ S', z_R190 d n 5 z [some (.ref r), some (.int v), some (.int (iI (i : Int))), some (.int (iI (N : Int)))] [] S = some (.inl none, S') ∧ (∀ j, i ≤ j → j < N → S'.1 r j = v) ∧ (∀ a j, (a ≠ r ∨ j < i ∨ N ≤ j) → S'.1 a j = S.1 a j) ∧ S'.2 = S.2 := by
  intro k
  induction k with
  | zero =>
    intro i n S hi hn
    obtain ⟨n, rfl⟩ : ∃ m, n = m + 2 := ⟨n - 2, by omega⟩
    refine ⟨S, ?_, fun j h1 h4 => by omega, fun _ _ _ => rfl, rfl⟩
    rw [zq_190_5, if_pos (by rw [iI_le (by omega) (by omega) (by omega) (by omega)]; omega), zq_190_20]
  | succ k ih =>
    intro i n S hi hn
    obtain ⟨n, rfl⟩ : ∃ m, n = m + 1 := ⟨n - 1, by omega⟩
    have e2 : (i : Int) + ((1 : Nat) : Int) = ((i + 1 : Nat) : Int) := by omega
    obtain ⟨S', g1, g2, g3, g4⟩ := ih (i + 1) n (z_w1 S.1 r i v, S.2) (by omega) (by omega)
    refine ⟨S', ?_, fun j h1 h4 => ?_, fun a j h1 => ?_, g4⟩
    · rw [zq_190_5, if_neg (by rw [iI_le (by omega) (by omega) (by omega) (by omega)]; omega)]
      refine (cond_t (by rw [h2, h3, ixN (by omega) (by omega)]; rfl)).trans ?_
      rw [tN (by omega), iI_n 1, iI_add, e2]
      exact g1
    · by_cases e : j = i
      · rw [g3 r j (by omega)]
        dsimp only
        rw [z_w1_r, if_pos ⟨rfl, e⟩]
      · exact g2 j (by omega) h4
    · rw [g3 a j (by omega)]
      dsimp only
      rw [z_w1_r, if_neg (by omega)]
theorem fillE {r N : Nat} {v : Int32} (h1 : Nat.beq r 1100 = false) (h2 : z_at r = 1) (h3 : z_ln r = N) (hN : N < 900000) (d : Nat) (S : z_St) : ∃ S', z_ew (d + 1) 190 [.ref r, .int v] S = some (.inl none, S') ∧ (∀ j, j < N → S'.1 r j = v) ∧ (∀ a j, (a ≠ r ∨ N ≤ j) → S'.1 a j = S.1 a j) ∧ S'.2 = S.2 := by
  obtain ⟨S', g1, g2, g3, g4⟩ := fillL (v := v) h2 h3 (by omega) d 0 N 0 999999 S (by omega) (by omega)
  refine ⟨S', ?_, fun j hj => g2 j (by omega) hj, fun a j h => g3 a j (by omega), g4⟩
  rw [zx_190, h1, cond_false]
  refine (cond_t (by rw [h2]; rfl)).trans ?_
  rw [h3, iI_n N]
  exact g1
theorem stk_set {M : Nat → Int32} {h v : Int32} {t : List Int32} : ∀ u, stk M (u ++ h :: t) → stk (fun i => if i = t.length then v else M i) (u ++ v :: t)
  | [], hq => ⟨if_pos rfl, stk_up t hq.2 (fun i hi => if_neg (by omega))⟩
  | a :: u, hq => by
    refine ⟨?_, stk_set u hq.2⟩
    have e : (u ++ v :: t).length = (u ++ h :: t).length := by simp
    show (if (u ++ v :: t).length = t.length then v else M (u ++ v :: t).length) = a
    rw [e, if_neg (by simp; omega)]
    exact hq.1
theorem stk_at {M : Nat → Int32} {x : Int32} {t : List Int32} : ∀ u, stk M (u ++ x :: t) → M t.length = x
  | [], hq => hq.1
  | _ :: u, hq => stk_at u hq.2
/-- a look goes into the row; the row's last stands first here -/
def insR (hr : Nat → Int) (l : Nat) : List Nat → List Nat
  | [] => [l]
  | x :: t => if hr l < hr x then x :: insR hr l t else l :: x :: t
theorem insR_s {hr : Nat → Int} {l x : Nat} {t : List Nat} : insR hr l (x :: t) = if hr l < hr x then x :: insR hr l t else l :: x :: t := rfl
theorem insR_len (hr : Nat → Int) (l : Nat) : ∀ t, (insR hr l t).length = t.length + 1
  | [] => rfl
  | x :: t => by
    show (if hr l < hr x then x :: insR hr l t else l :: x :: t).length = _
    by_cases h : hr l < hr x
    · rw [if_pos h]
      show (insR hr l t).length + 1 = _
      rw [insR_len hr l t]
      rfl
    · rw [if_neg h]
      rfl
theorem insR_mem {hr : Nat → Int} {l y : Nat} : ∀ {t}, y ∈ insR hr l t ↔ y = l ∨ y ∈ t
  | [] => by simp [insR]
  | x :: t => by
    show y ∈ (if hr l < hr x then x :: insR hr l t else l :: x :: t) ↔ _
    by_cases h : hr l < hr x
    · rw [if_pos h, List.mem_cons, insR_mem, List.mem_cons]
      constructor
      · rintro (e | e | e)
        · exact Or.inr (Or.inl e)
        · exact Or.inl e
        · exact Or.inr (Or.inr e)
      · rintro (e | e | e)
        · exact Or.inr (Or.inl e)
        · exact Or.inl e
        · exact Or.inr (Or.inr e)
    · rw [if_neg h, List.mem_cons]
section ROW
variable {p : Nat} {A : aS} {S : z_St}
theorem lk18 {l : Nat} {v : Int32} (h : S.1 33 (l * 4 + 1) = v) (hl : l < 24) (d : Nat) : z_ew (d + 1) 18 [.ref 24, .int (iI (l : Int))] S = some (.inl (some (.int v)), S) := by
  rw [zx_18, iI_n, iI_n, iI_mul, iI_add, show (l : Int) * ((4 : Nat) : Int) + ((1 : Nat) : Int) = ((l * 4 + 1 : Nat) : Int) by omega, ixN (by omega) (by decide), cond_true, tN (by omega), h]
theorem lk19 {l : Nat} {v : Int32} (h : S.1 33 (l * 4 + 2) = v) (hl : l < 24) (d : Nat) : z_ew (d + 1) 19 [.ref 24, .int (iI (l : Int))] S = some (.inl (some (.int v)), S) := by
  rw [zx_19, iI_n, iI_n, iI_mul, iI_add, show (l : Int) * ((4 : Nat) : Int) + ((2 : Nat) : Int) = ((l * 4 + 2 : Nat) : Int) by omega, ixN (by omega) (by decide), cond_true, tN (by omega), h]
theorem lk20 {l : Nat} {v : Int32} (h : S.1 33 (l * 4 + 3) = v) (hl : l < 24) (d : Nat) : z_ew (d + 1) 20 [.ref 24, .int (iI (l : Int))] S = some (.inl (some (.int v)), S) := by
  rw [zx_20, iI_n, iI_n, iI_mul, iI_add, show (l : Int) * ((4 : Nat) : Int) + ((3 : Nat) : Int) = ((l * 4 + 3 : Nat) : Int) by omega, ixN (by omega) (by decide), cond_true, tN (by omega), h]
def f0 (l : Nat) : Int32 := iI (l : Int)
def f1 (A : aS) (l : Nat) : Int32 := iI (A 33 l)
def f2 (A : aS) (l : Nat) : Int32 := iI (A 34 l)
def f3 (A : aS) (l : Nat) : Int32 := iI (A 35 l)
def st4 (A : aS) (S : z_St) (u t : List Nat) (h0 h1 h2 h3 : Int32) : Prop := stk (S.1 56) (u.map f0 ++ h0 :: t.map f0) ∧ stk (S.1 57) (u.map (f1 A) ++ h1 :: t.map (f1 A)) ∧ stk (S.1 58) (u.map (f2 A) ++ h2 :: t.map (f2 A)) ∧ stk (S.1 59) (u.map (f3 A) ++ h3 :: t.map (f3 A))
def fr4 (S S' : z_St) : Prop := (∀ a i, (a < 55 ∨ 60 ≤ a ∨ a = 55 ∧ i ≠ 1) → S'.1 a i = S.1 a i) ∧ S'.2 = S.2
theorem fr4.tr {S S1 S2 : z_St} (h : fr4 S S1) (h2 : fr4 S1 S2) : fr4 S S2 := ⟨fun a i q => (h2.1 a i q).trans (h.1 a i q), h2.2.trans h.2⟩
theorem st4_set {u t : List Nat} {h0 h1 h2 h3 v0 v1 v2 v3 : Int32} (h : st4 A S u t h0 h1 h2 h3) : st4 A (z_w1 (z_w1 (z_w1 (z_w1 S.1 56 t.length v0) 57 t.length v1) 58 t.length v2) 59 t.length v3, S.2) u t v0 v1 v2 v3 := by
  obtain ⟨a0, a1, a2, a3⟩ := h
  have lm : ∀ f : Nat → Int32, (t.map f).length = t.length := fun f => by rw [List.length_map]
  refine ⟨?_, ?_, ?_, ?_⟩
  · have := stk_set (v := v0) (u.map f0) a0
    rw [lm] at this
    refine stk_up _ this (fun i _ => ?_)
    dsimp only
    rw [z_w1_r, if_neg (by omega), z_w1_r, if_neg (by omega), z_w1_r, if_neg (by omega), z_w1_r]
    by_cases e : i = t.length
    · rw [if_pos ⟨rfl, e⟩, if_pos e]
    · rw [if_neg (fun z => e z.2), if_neg e]
  · have := stk_set (v := v1) (u.map (f1 A)) a1
    rw [lm] at this
    refine stk_up _ this (fun i _ => ?_)
    dsimp only
    rw [z_w1_r, if_neg (by omega), z_w1_r, if_neg (by omega), z_w1_r]
    by_cases e : i = t.length
    · rw [if_pos ⟨rfl, e⟩, if_pos e]
    · rw [if_neg (fun z => e z.2), if_neg e, z_w1_r, if_neg (by omega)]
  · have := stk_set (v := v2) (u.map (f2 A)) a2
    rw [lm] at this
    refine stk_up _ this (fun i _ => ?_)
    dsimp only
    rw [z_w1_r, if_neg (by omega), z_w1_r]
    by_cases e : i = t.length
    · rw [if_pos ⟨rfl, e⟩, if_pos e]
    · rw [if_neg (fun z => e z.2), if_neg e, z_w1_r, if_neg (by omega), z_w1_r, if_neg (by omega)]
  · have := stk_set (v := v3) (u.map (f3 A)) a3
    rw [lm] at this
    refine stk_up _ this (fun i _ => ?_)
    dsimp only
    rw [z_w1_r]
    by_cases e : i = t.length
    · rw [if_pos ⟨rfl, e⟩, if_pos e]
    · rw [if_neg (fun z => e z.2), if_neg e, z_w1_r, if_neg (by omega), z_w1_r, if_neg (by omega), z_w1_r, if_neg (by omega)]
theorem c_in0 {l : Nat} (hl : l < 24) (d z : Nat) : ∀ (t u : List Nat) (n : Nat) (S : z_St) (h0 h1 h2 h3 : Int32), u.length + t.length < 6 → (∀ w, w < 4 → S.1 33 (l * 4 + w) = iI (A (32 + w) l)) → st4 A S u t h0 h1 h2 h3 → ∃ S', z_R48 (d + 1) (n + 1) 97 z [some (.ref 55), some (.ref 24), some (.int (iI (l : Int))), some (.int (iI (t.length : Int)))] [] S = some (.inl none, S') ∧ stk (S'.1 56) ((u ++ l :: t).map f0) ∧ stk (S'.1 57) ((u ++ l :: t).map (f1 A)) ∧ stk (S'.1 58) ((u ++ l :: t).map (f2 A)) ∧ stk (S'.1 59) ((u ++ l :: t).map (f3 A)) ∧ S'.1 55 1 = S.1 55 1 + nI 1 ∧ fr4 S S' := by
  intro t u n S h0 h1 h2 h3 hlen hk hs
  have hs2 := st4_set (v0 := f0 l) (v1 := f1 A l) (v2 := f2 A l) (v3 := f3 A l) hs
  obtain ⟨b0, b1, b2, b3⟩ := hs2
  have rest : ∀ a, a = 56 ∨ a = 57 ∨ a = 58 ∨ a = 59 → ∀ i, z_w1 (z_w1 (z_w1 (z_w1 (z_w1 S.1 56 t.length (f0 l)) 57 t.length (f1 A l)) 58 t.length (f2 A l)) 59 t.length (f3 A l)) 55 1 (S.1 55 1 + nI 1) a i = z_w1 (z_w1 (z_w1 (z_w1 S.1 56 t.length (f0 l)) 57 t.length (f1 A l)) 58 t.length (f2 A l)) 59 t.length (f3 A l) a i := by
    intro a ha i
    rw [z_w1_r, if_neg (by omega)]
  refine ⟨(z_w1 (z_w1 (z_w1 (z_w1 (z_w1 S.1 56 t.length (f0 l)) 57 t.length (f1 A l)) 58 t.length (f2 A l)) 59 t.length (f3 A l)) 55 1 (S.1 55 1 + nI 1), S.2), ?_, ?_, ?_, ?_, ?_, ?_, ?_, rfl⟩
  · rw [zq_48_97, ixN (by omega) (by decide), cond_true, tN (by omega), lk18 (v := f1 A l) (by dsimp only; rw [z_w1_r, if_neg (by omega)]; exact hk 1 (by decide)) hl d, cli_i, cond_true, lk19 (v := f2 A l) (by dsimp only; rw [z_w1_r, if_neg (by omega), z_w1_r, if_neg (by omega)]; exact hk 2 (by decide)) hl d, cli_i, cond_true, lk20 (v := f3 A l) (by dsimp only; rw [z_w1_r, if_neg (by omega), z_w1_r, if_neg (by omega), z_w1_r, if_neg (by omega)]; exact hk 3 (by decide)) hl d, cli_i, cond_true]
    dsimp only
    rw [z_w1_r (z_w1 (z_w1 S.1 56 t.length (iI (l : Int))) 57 t.length (f1 A l)), if_neg (by omega), z_w1_r (z_w1 S.1 56 t.length (iI (l : Int))), if_neg (by omega), z_w1_r S.1 56, if_neg (by omega)]
    rfl
  · rw [List.map_append, List.map_cons]
    exact stk_up _ b0 (fun i _ => rest 56 (by omega) i)
  · rw [List.map_append, List.map_cons]
    exact stk_up _ b1 (fun i _ => rest 57 (by omega) i)
  · rw [List.map_append, List.map_cons]
    exact stk_up _ b2 (fun i _ => rest 58 (by omega) i)
  · rw [List.map_append, List.map_cons]
    exact stk_up _ b3 (fun i _ => rest 59 (by omega) i)
  · dsimp only
    rw [z_w1_r, if_pos ⟨rfl, rfl⟩]
  · intro a i q
    dsimp only
    rw [z_w1_r, if_neg (by omega), z_w1_r, if_neg (by omega), z_w1_r, if_neg (by omega), z_w1_r, if_neg (by omega), z_w1_r, if_neg (by omega)]
theorem c_in {l : Nat} (hl : l < 24) (hl2 : 0 ≤ A 33 l ∧ A 33 l ≤ 8759) (d z : Nat) : ∀ (t u : List Nat) (n : Nat) (S : z_St) (h0 h1 h2 h3 : Int32), u.length + t.length < 6 → t.length + 3 ≤ n → (∀ y, y ∈ t → 0 ≤ A 33 y ∧ A 33 y ≤ 8759) → (∀ w, w < 4 → S.1 33 (l * 4 + w) = iI (A (32 + w) l)) → st4 A S u t h0 h1 h2 h3 → ∃ S', z_R48 (d + 1) n 15 z [some (.ref 55), some (.ref 24), some (.int (iI (l : Int))), some (.int (iI (t.length : Int)))] [] S = some (.inl none, S') ∧ stk (S'.1 56) ((u ++ insR (A 33) l t).map f0) ∧ stk (S'.1 57) ((u ++ insR (A 33) l t).map (f1 A)) ∧ stk (S'.1 58) ((u ++ insR (A 33) l t).map (f2 A)) ∧ stk (S'.1 59) ((u ++ insR (A 33) l t).map (f3 A)) ∧ S'.1 55 1 = S.1 55 1 + nI 1 ∧ fr4 S S' := by
  have fin := c_in0 (A := A) hl d z
  intro t
  induction t with
  | nil =>
    intro u n S h0 h1 h2 h3 hlen hn _ hk hs
    obtain ⟨n, rfl⟩ : ∃ m, n = m + 2 := ⟨n - 2, by omega⟩
    rw [zq_48_15, if_pos (by show iI ((0 : Nat) : Int) ≤ 0; decide +kernel)]
    exact fin [] u n S h0 h1 h2 h3 hlen hk hs
  | cons x t ih =>
    intro u n S h0 h1 h2 h3 hlen hn hy hk hs
    have hn : t.length + 1 + 3 ≤ n := hn
    have hlen' : u.length + (t.length + 1) < 6 := hlen
    obtain ⟨n, rfl⟩ : ∃ m, n = m + 2 := ⟨n - 2, by omega⟩
    have hx := hy x List.mem_cons_self
    have el : (((x :: t).length : Nat) : Int) = ((t.length + 1 : Nat) : Int) := rfl
    have e1 : iI ((t.length + 1 : Nat) : Int) - nI 1 = iI (t.length : Int) := by
      rw [iI_n, iI_sub]
      congr 1
      omega
    have e2 : iI ((t.length + 1 : Nat) : Int) + (-nI 1) = iI (t.length : Int) := by
      rw [nm1, iI_add]
      congr 1
      omega
    obtain ⟨s0, s1, s2, s3⟩ := id hs
    have a0 : S.1 56 t.length = f0 x := by
      have := stk_at (x := f0 x) (t := t.map f0) (u.map f0 ++ [h0]) (by simpa using s0)
      rwa [List.length_map] at this
    have a1 : S.1 57 t.length = f1 A x := by
      have := stk_at (x := f1 A x) (t := t.map (f1 A)) (u.map (f1 A) ++ [h1]) (by simpa using s1)
      rwa [List.length_map] at this
    have a2 : S.1 58 t.length = f2 A x := by
      have := stk_at (x := f2 A x) (t := t.map (f2 A)) (u.map (f2 A) ++ [h2]) (by simpa using s2)
      rwa [List.length_map] at this
    have a3 : S.1 59 t.length = f3 A x := by
      have := stk_at (x := f3 A x) (t := t.map (f3 A)) (u.map (f3 A) ++ [h3]) (by simpa using s3)
      rwa [List.length_map] at this
    have hk1 : S.1 33 (l * 4 + 1) = iI (A 33 l) := hk 1 (by decide)
    rw [el, zq_48_15, iI_0, if_neg (by rw [iI_le (by omega) (by omega) (by decide) (by decide)]; omega), e1, ixN (by omega) (by decide), cond_true, lk18 hk1 hl d, cli_i, tN (by omega), a1]
    rw [insR_s]
    by_cases q : A 33 l < A 33 x
    · rw [if_pos q, if_neg (by unfold f1; rw [iI_le (by omega) (by omega) (by omega) (by omega)]; omega), ixN (by omega) (by decide), cond_true, cond_true, cond_true, cond_true, cond_true, cond_true, cond_true, cond_true, e2, a0, a2, a3, tN (by omega)]
      have hs3 := st4_set (t := x :: t) (v0 := f0 x) (v1 := f1 A x) (v2 := f2 A x) (v3 := f3 A x) hs
      have hs4 : st4 A (z_w1 (z_w1 (z_w1 (z_w1 S.1 56 (t.length + 1) (f0 x)) 57 (t.length + 1) (f1 A x)) 58 (t.length + 1) (f2 A x)) 59 (t.length + 1) (f3 A x), S.2) (u ++ [x]) t (f0 x) (f1 A x) (f2 A x) (f3 A x) := by
        obtain ⟨c0, c1, c2, c3⟩ := hs3
        refine ⟨?_, ?_, ?_, ?_⟩
        · rw [List.map_append]; simpa using c0
        · rw [List.map_append]; simpa using c1
        · rw [List.map_append]; simpa using c2
        · rw [List.map_append]; simpa using c3
      obtain ⟨S', g1, g2, g3, g4, g5, g6, g7⟩ := ih (u ++ [x]) (n + 1) _ _ _ _ _ (by rw [List.length_append]; show u.length + 1 + t.length < 6; omega) (by omega) (fun y hy' => hy y (List.mem_cons_of_mem x hy')) (fun w hw => by
        dsimp only
        rw [z_w1_r, if_neg (by omega), z_w1_r, if_neg (by omega), z_w1_r, if_neg (by omega), z_w1_r, if_neg (by omega)]
        exact hk w hw) hs4
      rw [List.append_assoc] at g2 g3 g4 g5
      have fq : fr4 S (z_w1 (z_w1 (z_w1 (z_w1 S.1 56 (t.length + 1) (f0 x)) 57 (t.length + 1) (f1 A x)) 58 (t.length + 1) (f2 A x)) 59 (t.length + 1) (f3 A x), S.2) := by
        refine ⟨fun a i q => ?_, rfl⟩
        dsimp only
        rw [z_w1_r, if_neg (by omega), z_w1_r, if_neg (by omega), z_w1_r, if_neg (by omega), z_w1_r, if_neg (by omega)]
      refine ⟨S', g1, g2, g3, g4, g5, ?_, fq.tr g7⟩
      rw [g6]
      dsimp only
      rw [z_w1_r, if_neg (by omega), z_w1_r, if_neg (by omega), z_w1_r, if_neg (by omega), z_w1_r, if_neg (by omega)]
    · rw [if_neg q, if_pos (by unfold f1; rw [iI_le (by omega) (by omega) (by omega) (by omega)]; omega), ← el]
      exact fin (x :: t) u n S h0 h1 h2 h3 hlen hk hs
end ROW
