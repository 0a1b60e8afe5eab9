/-! a call, out of the class's answer and the model's -/
theorem CI.o {p : Nat} {A : aS} {S : z_St} {v : Int64} (h : CI p A S) : CI p A (S.1, z_w2 S.2 116 0 v) := by
  obtain ⟨h1, h2, h3, h4, h5, h6⟩ := h
  refine ⟨h1, h2, h3, h4, ?_, ?_⟩
  · intro b r hb hr q hq
    show (z_w2 S.2 116 0 v 32 _).toBitVec.getLsbD _ = _
    rw [z_w2_r, if_neg (by omega)]
    exact h5 b r hb hr q hq
  · intro ha b r hb hr q hq
    show (z_w2 S.2 116 0 v 46 _).toBitVec.getLsbD _ = _
    rw [z_w2_r, if_neg (by omega)]
    exact h6 ha b r hb hr q hq
/-- what the model's call gives -/
def mQ (m : Nat) (as : List Value) (x c : Int) (A' : aS) (S2 : z_St) : Prop := ∃ S3, z_ew 1000 m (.ref 70 :: as) S2 = some (.inl (some (.int (iI x))), S3) ∧ fM S2 S3 ∧ MI A' S3 ∧ S3.1 70 1 = iI c
section MK
variable {w m cm : Nat} {as : List Value} {S S1 : z_St} {o : Option Int} {p p' : Nat} {A A' : aS}
theorem opW_mk (hwr : ∀ x S1, z_ew 999 cm (.ref 0 :: as) S = some (.inl (some (.int x)), S1) → z_ew 1000 w (.ref 0 :: (as ++ [.ref 116])) S = some (.inl (some (.int (nI 0))), (S1.1, z_w2 S1.2 116 0 x.toInt64)))
    (hwx : ∀ S1, z_ew 999 cm (.ref 0 :: as) S = some (.inr 0, S1) → z_ew 1000 w (.ref 0 :: (as ++ [.ref 116])) S = some (.inl (some (.int 1)), S1))
    (hwA : wf A) (hMS : MI A S) (hc : z_ew 999 cm (.ref 0 :: as) S = some (rC 0 o, S1)) (hf : fC S S1) (hC : CI p' A' S1) (hwf : wf A') (hm : ∀ S2, MI A S2 → mQ m as (rM o) (rK o) A' S2) :
    ∃ (c y : Int32) (S1 S2 : z_St), z_ew 1000 w (.ref 0 :: (as ++ [.ref 116])) S = some (.inl (some (.int c)), S1) ∧ z_ew 1000 m (.ref 70 :: as) S1 = some (.inl (some (.int y)), S2) ∧ S2.1 70 1 = c ∧ (c = 0 → S2.2 116 0 = y.toInt64) ∧ AI S2 := by
  have hM1 := hMS.c hwA hf
  cases o with
  | some x =>
    obtain ⟨S3, e1, e2, e3, e4⟩ := hm (S1.1, z_w2 S1.2 116 0 (iI x).toInt64) ⟨hM1.1, hM1.2⟩
    refine ⟨_, _, _, S3, hwr _ _ hc, e1, by rw [e4]; rfl, fun _ => ?_, p', A', hC.o.m e2, e3, hwf⟩
    rw [(e2 116 (by omega)).2]
    show z_w2 S1.2 116 0 _ 116 0 = _
    rw [z_w2_r, if_pos ⟨rfl, rfl⟩]
    rfl
  | none =>
    obtain ⟨S3, e1, e2, e3, e4⟩ := hm S1 hM1
    refine ⟨_, _, _, S3, hwx _ hc, e1, by rw [e4]; rfl, fun q => ?_, p', A', hC.m e2, e3, hwf⟩
    exact absurd q (by decide)
end MK
/-- the model's call that changes nothing but its code -/
theorem mQ_same {m : Nat} {as : List Value} {x c : Int} {A : aS} {S2 : z_St} (hw : wf A) (h : MI A S2) (e : z_ew 1000 m (.ref 70 :: as) S2 = some (.inl (some (.int (iI x))), (z_w1 S2.1 70 1 (iI c), S2.2))) : mQ m as x c A S2 :=
  ⟨_, e, fM_w1 (by omega) (by omega), h.code hw, by show z_w1 S2.1 70 1 (iI c) 70 1 = _; rw [z_w1_r, if_pos ⟨rfl, rfl⟩]⟩
theorem o_count (a : Int32) : OpW 192 140 [.int a] := by
  intro S ⟨p, A, hC, hM, hw⟩
  obtain ⟨v, h1, h2, rfl⟩ := iI_of a
  exact opW_mk (cm := 77) (fun _ _ e => w_192 e) (fun _ e => w_192x e) hw hM (c_count hC v h1 h2 997) (fC.rf S) hC hw (fun S2 h => mQ_same hw h (m_count h v h1 h2 997))
theorem o_fault : ∀ S, AI S → ∃ (y : Int32) (S1 S2 : z_St), z_ew 1000 76 [.ref 0] S = some (.inl (some (.int y)), S1) ∧ z_ew 1000 139 [.ref 70] S1 = some (.inl (some (.int y)), S2) ∧ AI S2 := by
  intro S ⟨p, A, hC, hM, hw⟩
  refine ⟨iI (A 1 0), S, (z_w1 S.1 70 1 (nI 0), S.2), ?_, ?_, p, A, hC.m (fM_w1 (by omega) (by omega)), hM.code hw, hw⟩
  · rw [zx_76 999, c_1 hC]
  · rw [zx_139 999, m_1 hM]
