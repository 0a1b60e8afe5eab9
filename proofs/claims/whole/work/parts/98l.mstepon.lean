/-! the next token: the model's -/
def kM (T : Nat → Int) (n s : Nat) : Int := if n ≤ s then 0 else if tkL (T s) = true then 1 else if tkD (T s) = true then 2 else if tkS (T s) = true then 3 else 4
def tkM (T : Nat → Int) (n s : Nat) (S : z_St) : Prop := S.1 70 18 = iI (en T n s : Int) ∧ S.1 70 20 = iI (kM T n s) ∧ S.1 70 22 = iI (s : Int) ∧ S.1 70 23 = iI (en T n s : Int) ∧ (kM T n s = 2 → S.1 70 21 = iI (cvF 100000 T (n - s) s 0))
def frT (S S' : z_St) : Prop := (∀ a i, a ≠ 70 ∨ (i ≠ 18 ∧ i ≠ 20 ∧ i ≠ 21 ∧ i ≠ 22 ∧ i ≠ 23) → S'.1 a i = S.1 a i) ∧ S'.2 = S.2
theorem frT.tr {S S1 S2 : z_St} (h : frT S S1) (h2 : frT S1 S2) : frT S S2 := ⟨fun a i q => (h2.1 a i q).trans (h.1 a i q), h2.2.trans h.2⟩
section MSO
variable {S : z_St}
theorem frT_w {i : Nat} (hi : i = 18 ∨ i = 20 ∨ i = 21 ∨ i = 22 ∨ i = 23) (v : Int32) : frT S (z_w1 S.1 70 i v, S.2) := ⟨fun a j h => by dsimp only; rw [z_w1_r, if_neg (by omega)], rfl⟩
theorem w70 {i j : Nat} (v : Int32) (h : j ≠ i) : z_w1 S.1 70 i v 70 j = S.1 70 j := by rw [z_w1_r, if_neg (by omega)]
theorem w7e {i : Nat} (v : Int32) : z_w1 S.1 70 i v 70 i = v := by rw [z_w1_r, if_pos ⟨rfl, rfl⟩]
theorem txM.w {T : Nat → Int} {n : Nat} {S' : z_St} (h : txM T n S) (hf : frT S S') : txM T n S' := h.f (fun i => hf.1 82 i (by omega)) (hf.1 70 19 (by omega))
/-- the end of it: what it ends with is put down -/
theorem m_fin {v : Int32} (d n z : Nat) (x1 : Option Value) (h : S.1 70 18 = v) : z_R120 d (n + 1) 212 z [some (.ref 70), x1] [] S = some (.inl none, (z_w1 S.1 70 23 v, S.2)) := by rw [zq_120_212, h]
end MSO
