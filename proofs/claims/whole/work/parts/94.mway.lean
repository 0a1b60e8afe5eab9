/-! all ways told: the model -/
theorem stk_suf {M : Nat → Int32} {t : List Int32} : ∀ u, stk M (u ++ t) → stk M t
  | [], h => h
  | _ :: u, h => stk_suf u h.2
def myB (j : Nat) : List (List Nat) → Nat
  | [] => 0
  | w :: t => myB j t ||| 2 ^ w.getD j 0
def suB (j : Nat) : List (List Nat) → Nat
  | [] => 255
  | w :: t => suB j t &&& 2 ^ w.getD j 0
def lpR (A : aS) (row : List Nat) (r : Nat) (w : List Nat) : Int := lpg A (fun j => row.getD j 0) (fun j => w.getD j 0) r row.length
def loP (A : aS) (row : List Nat) (r : Nat) : List (List Nat) → Int
  | [] => 1
  | w :: t => if t = [] then lpR A row r w else mnI (loP A row r t) (lpR A row r w)
def hiP (A : aS) (row : List Nat) (r : Nat) : List (List Nat) → Int
  | [] => 1
  | w :: t => if t = [] then lpR A row r w else mxI (hiP A row r t) (lpR A row r w)
theorem loP_s {A : aS} {row : List Nat} {r : Nat} {w : List Nat} {t : List (List Nat)} : loP A row r (w :: t) = if t = [] then lpR A row r w else mnI (loP A row r t) (lpR A row r w) := rfl
theorem hiP_s {A : aS} {row : List Nat} {r : Nat} {w : List Nat} {t : List (List Nat)} : hiP A row r (w :: t) = if t = [] then lpR A row r w else mxI (hiP A row r t) (lpR A row r w) := rfl
theorem bor_t : ∀ m : Nat, m < 256 → ∀ h : Nat, h < 8 → iI (m : Int) ||| bB h = iI ((m ||| 2 ^ h : Nat) : Int) := by decide +kernel
theorem band_t : ∀ m : Nat, m < 256 → ∀ h : Nat, h < 8 → iI (m : Int) &&& bB h = iI ((m &&& 2 ^ h : Nat) : Int) := by decide +kernel
theorem or8 {m h : Nat} (hm : m < 256) (hh : h < 8) : m ||| 2 ^ h < 256 := by
  have h1 : 2 ^ h < 2 ^ 8 := Nat.pow_lt_pow_right (by decide) hh
  exact Nat.or_lt_two_pow (n := 8) hm h1
theorem and8 {m h : Nat} (hm : m < 256) : m &&& h < 256 := Nat.lt_of_le_of_lt Nat.and_le_left hm
def w8 (n0 : Nat) (Wd : List (List Nat)) : Prop := ∀ w, w ∈ Wd → ∀ j, j < n0 → w.getD j 0 < 8
theorem myB_l {n0 j : Nat} (hj : j < n0) : ∀ Wd, w8 n0 Wd → myB j Wd < 256
  | [], _ => by show 0 < 256; decide
  | w :: t, h => or8 (myB_l hj t (fun x hx => h x (List.mem_cons_of_mem w hx))) (h w List.mem_cons_self j hj)
theorem suB_l {j : Nat} : ∀ Wd, suB j Wd < 256
  | [] => by show 255 < 256; decide
  | _ :: t => and8 (suB_l t)
theorem mn_r {a b l u : Int} (h1 : l ≤ a ∧ a ≤ u) (h2 : l ≤ b ∧ b ≤ u) : (l ≤ mnI a b ∧ mnI a b ≤ u) ∧ l ≤ mxI a b ∧ mxI a b ≤ u := by
  unfold mnI mxI
  split <;> split <;> omega
theorem lh_P {A : aS} {row : List Nat} {r : Nat} (hq : ∀ w, 1 ≤ lpR A row r w ∧ lpR A row r w ≤ 401) : ∀ Wd, (1 ≤ loP A row r Wd ∧ loP A row r Wd ≤ 401) ∧ 1 ≤ hiP A row r Wd ∧ hiP A row r Wd ≤ 401
  | [] => ⟨⟨by show (1 : Int) ≤ 1; decide, by show (1 : Int) ≤ 401; decide⟩, by show (1 : Int) ≤ 1; decide, by show (1 : Int) ≤ 401; decide⟩
  | w :: t => by
    have ih := lh_P hq t
    unfold loP hiP
    by_cases e : t = []
    · rw [if_pos e, if_pos e]
      exact ⟨hq w, hq w⟩
    · rw [if_neg e, if_neg e]
      exact ⟨(mn_r ih.1 (hq w)).1, (mn_r ih.2 (hq w)).2⟩
theorem smF_b {α : Type} {f : α → Nat} {c : Nat} : ∀ {a : List α}, (∀ x, x ∈ a → f x ≤ c) → smF f a ≤ a.length * c
  | [], _ => Nat.zero_le _
  | x :: a, h => by
    have ih := smF_b (a := a) (fun y hy => h y (List.mem_cons_of_mem x hy))
    have h0 := h x List.mem_cons_self
    show f x + smF f a ≤ (a.length + 1) * c
    rw [Nat.add_mul]
    omega
theorem nw_le (K : okT) (Rs : List Nat) : ∀ (ls : List Nat) (s : Nat → Option Nat), (wy K Rs ls s).length ≤ Rs.length ^ ls.length
  | [], _ => Nat.le_refl _
  | l :: t, s => by
    show nw K Rs (l :: t) s ≤ _
    rw [nw_s, List.length_cons, Nat.pow_succ, Nat.mul_comm]
    refine smF_b (fun r _ => ?_)
    split
    · exact nw_le K Rs t _
    · exact Nat.zero_le _
def RO (A : aS) (row : List Nat) : Prop := row.length < 7 ∧ (∀ y, y ∈ row → (y : Int) < A 6 0) ∧ row.Pairwise (fun o l => o ≠ l ∧ A 33 o ≤ A 33 l)
theorem RO.g {A : aS} {row : List Nat} (h : RO A row) {j : Nat} (hj : j < row.length) : (row.getD j 0 : Int) < A 6 0 := by
  rw [List.getD_eq_getElem?_getD, List.getElem?_eq_getElem hj]
  exact h.2.1 _ (List.getElem_mem hj)
theorem RO.inj {A : aS} {row : List Nat} (h : RO A row) : ∀ i j, i < row.length → j < row.length → row.getD i 0 = row.getD j 0 → i = j := by
  have hp := List.pairwise_iff_getElem.mp h.2.2
  intro i j hi hj e
  rw [List.getD_eq_getElem?_getD, List.getElem?_eq_getElem hi, List.getD_eq_getElem?_getD, List.getElem?_eq_getElem hj] at e
  rcases Nat.lt_trichotomy i j with q | q | q
  · exact absurd e (hp i j hi hj q).1
  · exact q
  · exact absurd e.symm (hp j i hj hi q).1
theorem insR_pw {f : Nat → Int} {l : Nat} : ∀ {t : List Nat}, l ∉ t → t.Pairwise (fun l o => o ≠ l ∧ f o ≤ f l) → (insR f l t).Pairwise (fun l o => o ≠ l ∧ f o ≤ f l)
  | [], _, _ => List.pairwise_singleton _ _
  | x :: t, hl, hp => by
    have hp' := List.pairwise_cons.mp hp
    have hlx : l ≠ x := fun e => hl (by rw [e]; exact List.mem_cons_self)
    have hlt : l ∉ t := fun e => hl (List.mem_cons_of_mem x e)
    rw [insR_s]
    split
    · rename_i q
      refine List.pairwise_cons.mpr ⟨fun y hy => ?_, insR_pw hlt hp'.2⟩
      rcases insR_mem.mp hy with rfl | hy
      · exact ⟨hlx, by omega⟩
      · exact hp'.1 y hy
    · rename_i q
      refine List.pairwise_cons.mpr ⟨fun y hy => ?_, hp⟩
      rcases List.mem_cons.mp hy with rfl | hy
      · exact ⟨fun e => hlx e.symm, by omega⟩
      · have := (hp'.1 y hy).2
        exact ⟨fun e => hlt (by rw [← e]; exact hy), by omega⟩
theorem rvb_pw {A : aS} {b : Nat} {but : Int} : ∀ l, (rvb A b but l).Pairwise (fun l o => o ≠ l ∧ A 33 o ≤ A 33 l)
  | 0 => List.Pairwise.nil
  | l + 1 => by
    rw [rvb_s]
    split
    · exact insR_pw (fun e => by have := (rvb_mem e).1; omega) (rvb_pw l)
    · exact rvb_pw l
theorem RO_rv {A : aS} {b : Nat} {but : Int} (hw : wf A) : RO A (rvb A b but (A 6 0).toNat).reverse := by
  have hk := hw.k
  refine ⟨?_, fun y hy => ?_, List.pairwise_reverse.mpr (rvb_pw _)⟩
  · rw [List.length_reverse]
    have h1 := rvb_len A b but (A 6 0).toNat
    have h2 := hw.lc b
    omega
  · have := (rvb_mem (List.mem_reverse.mp hy)).1
    omega
def TT (A : aS) (row : List Nat) (R : Nat) (Wd : List (List Nat)) (S : z_St) : Prop := S.1 70 56 = iI (Wd.length : Int) ∧ (∀ j, j < row.length → S.1 103 (row.getD j 0) = iI (myB j Wd : Int) ∧ S.1 104 (row.getD j 0) = iI (suB j Wd : Int)) ∧ (Wd ≠ [] → ∀ r, r < R → S.1 105 r = iI (loP A row r Wd) ∧ S.1 106 r = iI (hiP A row r Wd))
def frX (S S' : z_St) : Prop := (∀ a i, a ≠ 102 → a ≠ 103 → a ≠ 104 → a ≠ 105 → a ≠ 106 → (a ≠ 70 ∨ i ≠ 56) → S'.1 a i = S.1 a i) ∧ S'.2 = S.2
theorem frX.tr {S S1 S2 : z_St} (h : frX S S1) (h2 : frX S1 S2) : frX S S2 := ⟨fun a i q0 q1 q2 q3 q4 q5 => (h2.1 a i q0 q1 q2 q3 q4 q5).trans (h.1 a i q0 q1 q2 q3 q4 q5), h2.2.trans h.2⟩
section WAY
variable {A : aS} {S : z_St}
theorem MI.fX {S' : z_St} (h : MI A S) (hw : wf A) (hf : frX S S') : MI A S' := h.sc hw (fun i hi => hf.1 70 i (by decide) (by decide) (by decide) (by decide) (by decide) (Or.inr (scf_ne hi).2.1)) (fun a h7 ha i => hf.1 a i (scr_ne ha).2.2.2.1 (scr_ne ha).2.2.2.2.1 (scr_ne ha).2.2.2.2.2.1 (scr_ne ha).2.2.2.2.2.2.1 (scr_ne ha).2.2.2.2.2.2.2.1 (Or.inl h7))
theorem m_tt {R : Nat} {row ws : List Nat} {Wd : List (List Nat)} (hw : wf A) (hM : MI A S) (hR : A 3 0 = R) (hro : RO A row) (h55 : S.1 70 55 = iI (row.length : Int)) (hs : stk (S.1 101) (row.reverse.map f0)) (hws : ws.length = row.length) (hs2 : stk (S.1 102) (ws.map f0)) (h8 : ∀ w, w ∈ ws → w < 8) (hW : w8 row.length Wd) (hB : Wd.length < 262144) (hT : TT A row R Wd S) (d : Nat) : ∃ S', z_ew (d + 2) 166 [.ref 70] S = some (.inl none, S') ∧ TT A row R (ws.reverse :: Wd) S' ∧ frW S S' := by
  have hg : ∀ j, j < row.length → S.1 101 j = iI (row.getD j 0 : Int) := by
    intro j hj
    have := stk_get row.reverse hs j (by rw [List.length_reverse]; exact hj)
    rw [List.reverse_reverse] at this
    exact this
  have hlr : ∀ r w, 1 ≤ lpR A row r w ∧ lpR A row r w ≤ 401 := fun r w => lpg_r hw (fun j hj => hro.g hj) row.length (Nat.le_refl _)
  have hge : ∀ j, j < row.length → ws.reverse.getD j 0 < 8 := by
    intro j hj
    rw [List.getD_eq_getElem?_getD, List.getElem?_eq_getElem (by rw [List.length_reverse, hws]; exact hj)]
    exact h8 _ (List.mem_reverse.mp (List.getElem_mem _))
  obtain ⟨S', a1, a2, a3, a4, a5⟩ := m_tell (g := fun j => row.getD j 0) (h := fun j => ws.reverse.getD j 0) (lo := fun r => loP A row r Wd) (hi := fun r => hiP A row r Wd) hw hM hR hro.1 (fun j hj => hro.g hj) hro.inj h55 hg (fun j hj => ⟨stk_get ws hs2 j (by omega), hge j hj⟩) hT.1 (fun q r hr => ⟨hT.2.2 (fun e => q (by rw [e]; rfl)) r hr, lh_P (hlr r) Wd⟩) d
  have e0 : (iI (Wd.length : Int) = 0) ↔ Wd = [] := by
    rw [iI_0, iI_eq (by omega) (by omega) (by decide) (by decide)]
    constructor
    · intro e
      exact List.length_eq_zero_iff.mp (by omega)
    · rintro rfl
      rfl
  refine ⟨S', a1, ⟨?_, fun j hj => ?_, fun _ r hr => ?_⟩, a5⟩
  · rw [a4, iI_n, iI_add]
    rfl
  · obtain ⟨b1, b2⟩ := a2 j hj
    rw [b1, b2, (hT.2.1 j hj).1, (hT.2.1 j hj).2, bor_t _ (myB_l hj Wd hW) _ (hge j hj), band_t _ (suB_l Wd) _ (hge j hj)]
    exact ⟨rfl, rfl⟩
  · obtain ⟨b1, b2⟩ := a3 r hr
    rw [b1, b2, loP_s, hiP_s]
    by_cases e : Wd = []
    · rw [if_pos (e0.mpr e), if_pos (e0.mpr e), if_pos e, if_pos e]
      exact ⟨rfl, rfl⟩
    · rw [if_neg (fun z => e (e0.mp z)), if_neg (fun z => e (e0.mp z)), if_neg e, if_neg e]
      exact ⟨rfl, rfl⟩
end WAY
