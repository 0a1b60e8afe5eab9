/-! a call instruction -/
/-- what lies behind the program's own objects stays -/
def z_fr (S S' : z_St) : Prop := ∀ a, z_n ≤ a → S'.1 a = S.1 a
theorem z_fr.rf (S : z_St) : z_fr S S := fun _ _ => rfl
theorem z_fr.tr {S S' S2 : z_St} (h : z_fr S S') (h2 : z_fr S' S2) : z_fr S S2 := fun a ha => (h2 a ha).trans (h a ha)
theorem z_fr_w1 {S : z_St} {a i : Nat} {v : Int32} (h : a < z_n) : z_fr S (z_w1 S.1 a i v, S.2) := fun b hb => z_w1_ne (fun q => by rw [q] at hb; omega)
theorem z_fr_c1 {S : z_St} {a b i j k : Nat} (h : b < z_n) : z_fr S (z_c1 S.1 a b i j k, S.2) := fun x hx => by
  show z_c1 S.1 a b i j k x = S.1 x
  unfold z_c1
  rw [if_neg (fun q => by rw [q] at hx; omega)]
def z_zk (lm : Bool) (z : Nat) : Prop := (lm = false → z = 0) ∧ z ≤ 100000
theorem z_clv_ok {r : z_Res} {f : z_St → z_Res} {g : Nat → z_St → z_Res} {o : z_Out × z_St} (h : z_clv r f g = some o) : (∃ S1, r = some (.inl none, S1) ∧ f S1 = some o) ∨ ∃ ee S1, r = some (.inr ee, S1) ∧ g ee S1 = some o := by
  unfold z_clv at h
  split at h
  · exact Or.inl ⟨_, rfl, h⟩
  · exact Or.inr ⟨_, _, rfl, h⟩
  · cases h
theorem z_cli_ok {r : z_Res} {f : Int32 → z_St → z_Res} {g : Nat → z_St → z_Res} {o : z_Out × z_St} (h : z_cli r f g = some o) : (∃ x S1, r = some (.inl (some (.int x)), S1) ∧ f x S1 = some o) ∨ ∃ ee S1, r = some (.inr ee, S1) ∧ g ee S1 = some o := by
  unfold z_cli at h
  split at h
  · exact Or.inl ⟨_, _, rfl, h⟩
  · exact Or.inr ⟨_, _, rfl, h⟩
  · cases h
theorem z_clr_ok {r : z_Res} {f : Nat → z_St → z_Res} {g : Nat → z_St → z_Res} {o : z_Out × z_St} (h : z_clr r f g = some o) : (∃ x S1, r = some (.inl (some (.ref x)), S1) ∧ f x S1 = some o) ∨ ∃ ee S1, r = some (.inr ee, S1) ∧ g ee S1 = some o := by
  unfold z_clr at h
  split at h
  · exact Or.inl ⟨_, _, rfl, h⟩
  · exact Or.inr ⟨_, _, rfl, h⟩
  · cases h
section ZQ
variable {lm : Bool} {hd0 : List (Nat × Int32)} {E : z_Ev} {go : z_K} {m n rc rt ti pc z : Nat} {L : z_Lo} {st : List Value} {S : z_St}
def z_cb (lm : Bool) (hd0 : List (Nat × Int32)) (E : z_Ev) (go : z_K) (m rt pc z : Nat) (L : z_Lo) (as rest : List Value) (S : z_St) : z_Res := match rt with
  | 0 => z_clv (E m as S) (fun S1 => go (pc + 3) z L rest S1) (fun e S1 => cond lm none (z_hnd hd0 e S1))
  | 1 => z_cli (E m as S) (fun x S1 => go (pc + 3) z L (.int x :: rest) S1) (fun e S1 => cond lm none (z_hnd hd0 e S1))
  | 3 => z_clr (E m as S) (fun x S1 => go (pc + 3) z L (.ref x :: rest) S1) (fun e S1 => cond lm none (z_hnd hd0 e S1))
  | _ => none
def z_o1 (rc : Nat) (as : List Value) : Bool := match as with
  | .ref a :: _ => z_isO rc a
  | _ => false
def z_cB (k : List Value → List Value → z_Res) (n : Nat) (st : List Value) : z_Res := match z_pop n [] st with
  | some (as, rest) => cond (Nat.ble (z_cs rest) 8) (k as rest) none
  | none => none
theorem z_cB_ok {k : List Value → List Value → z_Res} {n : Nat} {st : List Value} {o : z_Out × z_St} (h : z_cB k n st = some o) : ∃ as rest, st = as.reverse ++ rest ∧ as.length = n ∧ z_cs rest ≤ 8 ∧ k as rest = some o := by
  unfold z_cB at h
  split at h
  · rename_i as rest hp
    obtain ⟨h1, h2⟩ := z_pop_nil hp
    obtain ⟨h3, h4⟩ := z_cnd h
    exact ⟨as, rest, h1, h2, Nat.le_of_ble_eq_true h3, h4⟩
  · cases h
theorem z_call0 : z_call lm hd0 E go [m, n, 0, rc, rt, ti] pc z L st S = z_cB (fun as rest => z_cb lm hd0 E go m rt pc z L as rest S) n st := rfl
theorem z_call1 : z_call lm hd0 E go [m, n, 1, rc, rt, ti] pc z L st S = z_cB (fun as rest => z_cb lm hd0 E go m rt pc z L as rest S) n st := rfl
theorem z_call2 : z_call lm hd0 E go [m, n, 2, rc, rt, ti] pc z L st S = z_cB (fun as rest => cond (z_o1 rc as) (z_cb lm hd0 E go m rt pc z L as rest S) none) n st := rfl
theorem z_call3 : z_call lm hd0 E go [m, n, 3, rc, rt, ti] pc z L st S = z_cB (fun as rest => cond (z_o1 rc as) (z_cb lm hd0 E go m rt pc z L as rest S) none) n st := rfl
theorem z_call4 : z_call lm hd0 E go [m, n, 4, rc, rt, ti] pc z L st S = z_cB (fun as rest => cond (lm && Nat.blt z 100000) (z_cli (E m as S) (fun x S1 => go (pc + 3) (z + 1) L (.int x :: rest) S1) (fun _ _ => none)) none) n st := rfl
def z_k6 (go : z_K) (pc z : Nat) (L : z_Lo) (S : z_St) (as rest : List Value) : z_Res := match as with
  | [.ref a, .int i, .ref b, .int j, .int k] =>
    cond (Nat.beq (z_at a) (z_at b) && !(Nat.beq a b) && !(decide (i < 0)) && !(decide (j < 0)) && !(decide (k < 0)) && decide (i.toNatClampNeg + k.toNatClampNeg ≤ z_ln a) && decide (j.toNatClampNeg + k.toNatClampNeg ≤ z_ln b)) (
      match z_at a with
      | 1 => go (pc + 3) z L rest (z_c1 S.1 a b i.toNatClampNeg j.toNatClampNeg k.toNatClampNeg, S.2)
      | 4 => go (pc + 3) z L rest (S.1, z_c2 S.2 a b i.toNatClampNeg j.toNatClampNeg k.toNatClampNeg)
      | _ => none) none
  | _ => none
theorem z_call6 : z_call lm hd0 E go [m, n, 6, rc, rt, ti] pc z L st S = z_cB (fun as rest => z_k6 go pc z L S as rest) n st := rfl
def z_k7 (go : z_K) (pc z : Nat) (L : z_Lo) (S : z_St) (as rest : List Value) : z_Res := match as with
  | [.ref a] => cond (Nat.ble 1200 a && Nat.blt a 1217) (go (pc + 3) z L (.int (nI ((z_tx.getD (a - 1200) []).length)) :: rest) S) none
  | _ => none
theorem z_call7 : z_call lm hd0 E go [m, n, 7, rc, rt, ti] pc z L st S = z_cB (fun as rest => z_k7 go pc z L S as rest) n st := rfl
def z_k8 (go : z_K) (pc z : Nat) (L : z_Lo) (S : z_St) (as rest : List Value) : z_Res := match as with
  | [.ref a, .int i] => cond (Nat.ble 1200 a && Nat.blt a 1217 && z_ix i (z_tx.getD (a - 1200) []).length) (go (pc + 3) z L (.int ((z_tx.getD (a - 1200) []).getD i.toNatClampNeg 0) :: rest) S) none
  | _ => none
theorem z_call8 : z_call lm hd0 E go [m, n, 8, rc, rt, ti] pc z L st S = z_cB (fun as rest => z_k8 go pc z L S as rest) n st := rfl
end ZQ
/-- what a call comes to: an answer and how it goes on -/
theorem z_cany {lm : Bool} {hd0 : List (Nat × Int32)} {E : z_Ev} {go : z_K} {m' pc z rt : Nat} {L : z_Lo} {as rest : List Value} {S : z_St} {out : z_Out × z_St}
    (h : z_cb lm hd0 E go m' rt pc z L as rest S = some out) :
    ∃ o S1, E m' as S = some (o, S1) ∧ ((∃ v : Option Value, o = .inl v ∧ go (pc + 3) z L (v.toList ++ rest) S1 = some out) ∨ ∃ ee, o = .inr ee ∧ lm = false ∧ z_hnd hd0 ee S1 = some out) := by
  have fin : ∀ {ee : Nat} {S1 : z_St}, cond lm none (z_hnd hd0 ee S1) = some out → lm = false ∧ z_hnd hd0 ee S1 = some out := fun h => z_cnd2 h
  unfold z_cb at h
  split at h
  · rcases z_clv_ok h with ⟨S1, h1, h2⟩ | ⟨ee, S1, h1, h2⟩
    · exact ⟨_, S1, h1, Or.inl ⟨none, rfl, h2⟩⟩
    · exact ⟨_, S1, h1, Or.inr ⟨ee, rfl, fin h2⟩⟩
  · rcases z_cli_ok h with ⟨x, S1, h1, h2⟩ | ⟨ee, S1, h1, h2⟩
    · exact ⟨_, S1, h1, Or.inl ⟨some (.int x), rfl, h2⟩⟩
    · exact ⟨_, S1, h1, Or.inr ⟨ee, rfl, fin h2⟩⟩
  · rcases z_clr_ok h with ⟨x, S1, h1, h2⟩ | ⟨ee, S1, h1, h2⟩
    · exact ⟨_, S1, h1, Or.inl ⟨some (.ref x), rfl, h2⟩⟩
    · exact ⟨_, S1, h1, Or.inr ⟨ee, rfl, fin h2⟩⟩
  · cases h
theorem z_okO_iv {own : String} {ix : Nat} {ops : List Nat} (h : z_okO own (.invokevirtual ix) ops = true) : ∃ m n kind rc rt ti, ops = [m, n, kind, rc, rt, ti] ∧ (kind = 7 ∨ kind = 8 ∨ (m < 211 ∧ n = (z_mi.getD m (0, 0, 0, 0, 0)).2.2.2.2 + 1 ∧ rc < 10 ∧ (z_m m).1.cls = z_own.getD rc "" ∧ (z_cls.getD rc ("", z_T0, 0)).1 = z_own.getD rc "" ∧ z_isw m = false ∧ ((kind = 2 ∧ Cond.methodLink own ix (z_m m).1 ∈ z_tb) ∨ (kind = 3 ∧ Cond.methodLinkNest own ix (z_m m).1 "SlipRoom" ∈ z_nw)) ∧ Cond.instanceMethod (z_m m).1 ∈ z_tb ∧ Cond.selects (z_m m).1.cls (z_m m).1 (z_m m).1 ∈ z_tb)) := by
  unfold z_okO at h
  dsimp only at h
  split at h
  · rename_i m n kind rc rt ti
    refine ⟨m, n, kind, rc, rt, ti, rfl, ?_⟩
    by_cases h7 : kind = 7
    · exact Or.inl h7
    · by_cases h8 : kind = 8
      · exact Or.inr (Or.inl h8)
      · have e7 : Nat.beq kind 7 = false := by
          cases hq : Nat.beq kind 7 with
          | false => rfl
          | true => exact absurd (Nat.eq_of_beq_eq_true hq) h7
        have e8 : Nat.beq kind 8 = false := by
          cases hq : Nat.beq kind 8 with
          | false => rfl
          | true => exact absurd (Nat.eq_of_beq_eq_true hq) h8
        rw [e7, e8] at h
        simp only [Bool.or_self, cond_false, Bool.and_eq_true, decide_eq_true_eq, Bool.not_eq_true'] at h
        obtain ⟨⟨⟨⟨⟨⟨⟨⟨h1, h2⟩, h3⟩, h4⟩, h5⟩, h6⟩, h9⟩, h10⟩, h11⟩ := h
        refine Or.inr (Or.inr ⟨Nat.blt_eq.mp h1, Nat.eq_of_beq_eq_true h2, Nat.blt_eq.mp h3, h4, h5, h6, ?_, z_inT_ok h10, z_inT_ok h11⟩)
        cases hk : Nat.beq kind 2 with
        | true => rw [hk] at h9; exact Or.inl ⟨Nat.eq_of_beq_eq_true hk, z_inT_ok h9⟩
        | false =>
          rw [hk] at h9
          simp only [cond_false, Bool.and_eq_true] at h9
          exact Or.inr ⟨Nat.eq_of_beq_eq_true h9.1, z_inN_ok h9.2⟩
  · cases h
theorem z_okO_is {own : String} {ix : Nat} {ops : List Nat} (h : z_okO own (.invokestatic ix) ops = true) : ∃ m n kind rc rt ti, ops = [m, n, kind, rc, rt, ti] ∧ ((kind = 6 ∧ Cond.methodLink own ix arraycopyName ∈ z_tb ∧ n = 5) ∨ (m < 211 ∧ n = (z_mi.getD m (0, 0, 0, 0, 0)).2.2.2.2 ∧ ((kind = 0 ∧ z_isw m = false ∧ Cond.methodLink own ix (z_m m).1 ∈ z_tb) ∨ (kind = 1 ∧ z_isw m = false ∧ Cond.methodLinkNest own ix (z_m m).1 "SlipRoom" ∈ z_nw) ∨ (kind = 4 ∧ z_isw m = true ∧ Cond.methodLink own ix (z_m m).1 ∈ z_tb)) ∧ Cond.static (z_m m).1 ∈ z_tb)) := by
  unfold z_okO at h
  dsimp only at h
  split at h
  · rename_i m n kind rc rt ti
    refine ⟨m, n, kind, rc, rt, ti, rfl, ?_⟩
    cases hk6 : Nat.beq kind 6 with
    | true =>
      rw [hk6] at h
      simp only [cond_true, Bool.and_eq_true] at h
      exact Or.inl ⟨Nat.eq_of_beq_eq_true hk6, z_inT_ok h.1, Nat.eq_of_beq_eq_true h.2⟩
    | false =>
      rw [hk6] at h
      simp only [cond_false, Bool.and_eq_true] at h
      obtain ⟨⟨⟨h1, h2⟩, h3⟩, h4⟩ := h
      refine Or.inr ⟨Nat.blt_eq.mp h1, Nat.eq_of_beq_eq_true h2, ?_, z_inT_ok h4⟩
      cases hk : Nat.beq kind 0 with
      | true =>
        rw [hk] at h3
        simp only [cond_true, Bool.and_eq_true, Bool.not_eq_true'] at h3
        exact Or.inl ⟨Nat.eq_of_beq_eq_true hk, h3.1, z_inT_ok h3.2⟩
      | false =>
        rw [hk] at h3
        cases hk1 : Nat.beq kind 1 with
        | true =>
          rw [hk1] at h3
          simp only [cond_true, cond_false, Bool.and_eq_true, Bool.not_eq_true'] at h3
          exact Or.inr (Or.inl ⟨Nat.eq_of_beq_eq_true hk1, h3.1, z_inN_ok h3.2⟩)
        | false =>
          rw [hk1] at h3
          simp only [cond_false, Bool.and_eq_true] at h3
          exact Or.inr (Or.inr ⟨Nat.eq_of_beq_eq_true h3.1.1, h3.1.2, z_inT_ok h3.2⟩)
  · cases h
def z_nwm (w : Cond) : Bool := match w with
  | .methodLinkNest _ _ y _ => !(decide (y.cls = "java/lang/Math"))
  | _ => true
theorem z_nwA : z_nw.all z_nwm = true := by decide +kernel
theorem z_nwM {own : String} {ix : Nat} {y : MethodName} {nm : String} (h : Cond.methodLinkNest own ix y nm ∈ z_nw) : y.cls ≠ "java/lang/Math" := by
  have := List.all_eq_true.mp z_nwA _ h
  simpa [z_nwm] using this
section ZD
variable {p : Program} {l : Launch} {e : Env} {R : Room} {s : State} {m : MethodId} {args : Array Value} {below : List Frame} {meth : Method} {c : Code} {Q : State → Prop} {B : Nat} {D : va_G} {ρ : Nat → Nat} {cA : Nat → ClassId} {nL : Nat}
variable {cc : ByteArray} {pc z : Nat} {L : z_Lo} {st r : List Value} {S : z_St} {own : String} {dd : Nat} {lm : Bool} {rt : Option FieldType} {hd0 : List (Nat × Int32)} {E : z_Ev} {K go : z_K} {out : z_Out × z_St}
/-- what is owed where a callee throws: room for the thing thrown, and the way on -/
def z_Xo (p : Program) (l : Launch) (e : Env) (R : Room) (s : State) (m : MethodId) (args : Array Value) (below : List Frame) (meth : Method) (c : Code) (Q : State → Prop) (B : Nat) (D : va_G) (ρ : Nat → Nat) (cA : Nat → ClassId) (nL : Nat) (hd0 : List (Nat × Int32)) (out : z_Out × z_St) (pc : Nat) (L : z_Lo) : Prop :=
  ∀ ee S1, z_hnd hd0 ee S1 = some out → 1 ≤ R.cells ∧ 6 ≤ R.slots ∧ ∀ (ls : Array Slot) (H : Heap) (locs : List Loc) (q : Addr) (ce : Cell) (rest : List Value), z_lr ρ ls nL L → z_Wd B D ρ cA S1 s H locs → H[q]? = some ce → ce.vm = .none → s.vm.findClass (z_en ee) = some ce.cls → vx_W p l e R s m args below meth c H locs 1 6 Q (F0 m pc ls rest) q
theorem zm_after {m' : Nat} {as rest : List Value} {o : z_Out} {S1 : z_St} (hfr : z_fr S S1) (hiw : z_isw m' = false) (hzk : z_zk lm z) (hstk : st = as.reverse ++ rest) (hRl : lm = true → 100001 ≤ R.cells ∧ 600006 ≤ R.slots)
    (hrun : (z + z_mcz (z_isw m') o ≤ R.cells ∧ 6 * z + 6 * z_mcz (z_isw m') o ≤ R.slots) → ∀ (ls : Array Slot) (H : Heap) (locs : List Loc), z_lr ρ ls nL L → z_Wd B D ρ cA S s H locs → vx_Run p l e R s m args below meth c H locs z (6 * z) (z_mcz (z_isw m') o) (6 * z_mcz (z_isw m') o) (F0 m pc ls ((as.reverse ++ rest).map (z_v ρ))) (rest.map (z_v ρ)) (z_Qr B D ρ cA o S1 (as.map (z_v ρ)).toArray) (z_Qx B D ρ cA o S1) (fun q => B ≤ q))
    (hres : (∃ v : Option Value, o = .inl v ∧ go (pc + 3) z L (v.toList ++ rest) S1 = some out) ∨ ∃ ee, o = .inr ee ∧ lm = false ∧ z_hnd hd0 ee S1 = some out)
    (hgo : ∀ z' st' S', z_zk lm z' → z_fr S S' → go (pc + 3) z' L st' S' = some out → z_J p l e R s m args below meth c Q B D ρ cA nL (pc + 3) z' L st' S') (hX : lm = false → z_Xo p l e R s m args below meth c Q B D ρ cA nL hd0 out pc L) : z_J p l e R s m args below meth c Q B D ρ cA nL pc z L st S := by
  subst hstk
  rw [hiw] at hrun
  rcases hres with ⟨v, rfl, hg⟩ | ⟨ee, rfl, hlm, hh⟩
  · have hcell : z + z_mcz false (.inl v : z_Out) ≤ R.cells ∧ 6 * z + 6 * z_mcz false (.inl v : z_Out) ≤ R.slots := by
      simp only [z_mcz, cond_false]
      cases hlm : lm with
      | false => rw [hzk.1 hlm]; omega
      | true => have := hRl hlm; have := hzk.2; omega
    refine zj_call (hrun hcell) (fun w hw => ?_) (fun ee he => by cases he)
    cases hw
    exact hgo z _ _ hzk hfr hg
  · obtain ⟨k1, k2, k3⟩ := hX hlm ee S1 hh
    obtain rfl := hzk.1 hlm
    have hcell : 0 + z_mcz false (.inr ee : z_Out) ≤ R.cells ∧ 6 * 0 + 6 * z_mcz false (.inr ee : z_Out) ≤ R.slots := by
      simp only [z_mcz]; omega
    refine zj_call (hrun hcell) (fun w hw => by cases hw) (fun e2 he => ?_)
    cases he
    intro ls H locs q ce h1 h2 h3 h4 h5
    exact k3 ls H locs q ce _ h1 h2 h3 h4 h5
/-- calls that the program's texts have: both of strings -/
def z_So1 (p : Program) (l : Launch) (e : Env) (R : Room) (s : State) (m : MethodId) (args : Array Value) (below : List Frame) (meth : Method) (c : Code) (Q : State → Prop) (B : Nat) (D : va_G) (ρ : Nat → Nat) (cA : Nat → ClassId) (nL : Nat) (pc : Nat) : Prop :=
  ∀ (z : Nat) (L : z_Lo) (rest : List Value) (S : z_St) (a : Nat), Nat.ble 1200 a = true → Nat.blt a 1217 = true → z_cs rest ≤ 8 → z ≤ R.cells ∧ 6 * z ≤ R.slots → z_J p l e R s m args below meth c Q B D ρ cA nL (pc + 3) z L (.int (nI ((z_tx.getD (a - 1200) []).length)) :: rest) S → z_J p l e R s m args below meth c Q B D ρ cA nL pc z L (.ref a :: rest) S
def z_So2 (p : Program) (l : Launch) (e : Env) (R : Room) (s : State) (m : MethodId) (args : Array Value) (below : List Frame) (meth : Method) (c : Code) (Q : State → Prop) (B : Nat) (D : va_G) (ρ : Nat → Nat) (cA : Nat → ClassId) (nL : Nat) (pc : Nat) : Prop :=
  ∀ (z : Nat) (L : z_Lo) (rest : List Value) (S : z_St) (a : Nat) (x : Int32), Nat.ble 1200 a = true → Nat.blt a 1217 = true → z_ix x (z_tx.getD (a - 1200) []).length = true → z_cs rest ≤ 8 → z ≤ R.cells ∧ 6 * z ≤ R.slots → z_J p l e R s m args below meth c Q B D ρ cA nL (pc + 3) z L (.int ((z_tx.getD (a - 1200) []).getD x.toNatClampNeg 0) :: rest) S → z_J p l e R s m args below meth c Q B D ρ cA nL pc z L (.int x :: .ref a :: rest) S
theorem zm_callV (hctx : z_Ctx p l R s m args c B D ρ cA nL cc own dd) {ix : Nat} {ops : List Nat} (hd : decode cc pc = .ok (.invokevirtual ix, 3)) (ho : z_okO own (.invokevirtual ix) ops = true) (hzk : z_zk lm z) (h : z_call lm hd0 E go ops pc z L st S = some out) (hRl : lm = true → 100001 ≤ R.cells ∧ 600006 ≤ R.slots)
    (hgo : ∀ z' st' S', z_zk lm z' → z_fr S S' → go (pc + 3) z' L st' S' = some out → z_J p l e R s m args below meth c Q B D ρ cA nL (pc + 3) z' L st' S')
    (hC : ∀ m' as S o S1, m' < 211 → m' ≠ 187 → m' ≠ 188 → (z_isw m' = true → ∃ v, o = .inl v) → E m' as S = some (o, S1) → z_C l B D ρ cA dd m' as S o S1) (hst : ∀ m', m' = 187 ∨ m' = 188 → Cond.instanceMethod (z_m m').1 ∉ z_tb)
    (hF : ∀ m' as S o S1, m' < 211 → E m' as S = some (o, S1) → z_fr S S1) (hX : lm = false → z_Xo p l e R s m args below meth c Q B D ρ cA nL hd0 out pc L) (hS : ∀ kind (q : ∃ m' n rc rt ti, ops = [m', n, kind, rc, rt, ti]), (kind = 7 → z_So1 p l e R s m args below meth c Q B D ρ cA nL pc) ∧ (kind = 8 → z_So2 p l e R s m args below meth c Q B D ρ cA nL pc)) : z_J p l e R s m args below meth c Q B D ρ cA nL pc z L st S := by
  obtain ⟨m', n, kind, rc, rt0, ti, rfl, hcase⟩ := z_okO_iv ho
  have hcz : z ≤ R.cells ∧ 6 * z ≤ R.slots := by
    cases hlm : lm with
    | false => rw [hzk.1 hlm]; omega
    | true => have := hRl hlm; have := hzk.2; omega
  rcases hcase with rfl | rfl | ⟨hm, hn, hrc, hcl, hcl2, hiw, hk, hin, hse⟩
  · rw [z_call7] at h
    obtain ⟨as, rest, hst0, hlen, hr8, h⟩ := z_cB_ok h
    unfold z_k7 at h
    split at h
    · obtain ⟨ha, h⟩ := z_cnd h
      simp only [Bool.and_eq_true] at ha
      rw [hst0]
      exact (hS 7 ⟨_, _, _, _, _, rfl⟩).1 rfl z L rest S _ ha.1 ha.2 hr8 hcz (hgo z _ _ hzk (z_fr.rf _) h)
    · cases h
  · rw [z_call8] at h
    obtain ⟨as, rest, hst0, hlen, hr8, h⟩ := z_cB_ok h
    unfold z_k8 at h
    split at h
    · obtain ⟨ha, h⟩ := z_cnd h
      simp only [Bool.and_eq_true] at ha
      rw [hst0]
      exact (hS 8 ⟨_, _, _, _, _, rfl⟩).2 rfl z L rest S _ _ ha.1.1 ha.1.2 ha.2 hr8 hcz (hgo z _ _ hzk (z_fr.rf _) h)
    · cases h
  · have hne1 : m' ≠ 187 := fun q => hst m' (Or.inl q) hin
    have hne2 : m' ≠ 188 := fun q => hst m' (Or.inr q) hin
    rcases hk with ⟨rfl, hl⟩ | ⟨rfl, hl⟩
    · rw [z_call2] at h
      obtain ⟨as, rest, hst0, hlen, hr8, h⟩ := z_cB_ok h
      obtain ⟨hb1, h⟩ := z_cnd h
      obtain ⟨o, S1, hE1, hres⟩ := z_cany h
      unfold z_o1 at hb1
      split at hb1
      · rename_i a tl
        refine zm_after (hF m' _ S o S1 hm hE1) hiw hzk hst0 hRl (fun hcell ls H locs h1 h2 => zm_run2 hctx hm (hC m' _ S o S1 hm hne1 hne2 (fun q => absurd (hiw.symm.trans q) (by decide)) hE1) hiw (by simp at hlen; omega) hrc hb1 hcl hcl2 hl hin hse hr8 hd hcell ls H locs h1 h2) hres hgo hX
      · cases hb1
    · rw [z_call3] at h
      obtain ⟨as, rest, hst0, hlen, hr8, h⟩ := z_cB_ok h
      obtain ⟨hb1, h⟩ := z_cnd h
      obtain ⟨o, S1, hE1, hres⟩ := z_cany h
      unfold z_o1 at hb1
      split at hb1
      · rename_i a tl
        refine zm_after (hF m' _ S o S1 hm hE1) hiw hzk hst0 hRl (fun hcell ls H locs h1 h2 => zm_run3 hctx hm (hC m' _ S o S1 hm hne1 hne2 (fun q => absurd (hiw.symm.trans q) (by decide)) hE1) hiw (by simp at hlen; omega) hrc hb1 hcl hcl2 hl hin hse hr8 hd hcell ls H locs h1 h2) hres hgo hX
      · cases hb1
theorem zm_callS (hctx : z_Ctx p l R s m args c B D ρ cA nL cc own dd) {ix : Nat} {ops : List Nat} (hd : decode cc pc = .ok (.invokestatic ix, 3)) (ho : z_okO own (.invokestatic ix) ops = true) (hzk : z_zk lm z) (h : z_call lm hd0 E go ops pc z L st S = some out) (hRl : lm = true → 100001 ≤ R.cells ∧ 600006 ≤ R.slots)
    (hgo : ∀ z' st' S', z_zk lm z' → z_fr S S' → go (pc + 3) z' L st' S' = some out → z_J p l e R s m args below meth c Q B D ρ cA nL (pc + 3) z' L st' S')
    (hC : ∀ m' as S o S1, m' < 211 → m' ≠ 187 → m' ≠ 188 → (z_isw m' = true → ∃ v, o = .inl v) → E m' as S = some (o, S1) → z_C l B D ρ cA dd m' as S o S1)
    (hM7 : ∀ as S o S1, as.length = 2 → E 187 as S = some (o, S1) → ∃ x y, as = [.int x, .int y] ∧ o = .inl (some (.int (if x < y then y else x))) ∧ S1 = S) (hM8 : ∀ as S o S1, as.length = 2 → E 188 as S = some (o, S1) → ∃ x y, as = [.int x, .int y] ∧ o = .inl (some (.int (if y < x then y else x))) ∧ S1 = S)
    (hF : ∀ m' as S o S1, m' < 211 → E m' as S = some (o, S1) → z_fr S S1) (hX : lm = false → z_Xo p l e R s m args below meth c Q B D ρ cA nL hd0 out pc L) : z_J p l e R s m args below meth c Q B D ρ cA nL pc z L st S := by
  obtain ⟨m', n, kind, rc, rt0, ti, rfl, hcase⟩ := z_okO_is ho
  have hcz : z ≤ R.cells ∧ 6 * z ≤ R.slots := by
    cases hlm : lm with
    | false => rw [hzk.1 hlm]; omega
    | true => have := hRl hlm; have := hzk.2; omega
  rcases hcase with ⟨rfl, hl, -⟩ | ⟨hm, hn, hk, hs⟩
  · rw [z_call6] at h
    obtain ⟨as, rest, hst0, hlen, hr8, h⟩ := z_cB_ok h
    unfold z_k6 at h
    obtain ⟨hx, hb, hml, hown, hts, hE, hAp, hRf, hRl⟩ := hctx
    split at h
    · obtain ⟨ha, h⟩ := z_cnd h
      simp only [Bool.and_eq_true, Bool.not_eq_true', decide_eq_true_eq, decide_eq_false_iff_not] at ha
      obtain ⟨⟨⟨⟨⟨⟨a1, a2⟩, a3⟩, a4⟩, a5⟩, a6⟩, a7⟩ := ha
      have a1' := Nat.eq_of_beq_eq_true a1
      rw [hst0]
      split at h
      · rename_i he
        exact zj_cp1 hx hb hml hE.1 hAp hown (hts _ hl) (hts _ z_acN) (hts _ z_acS) (hts _ z_acI) he (a1'.symm.trans he) a3 a4 a5 a6 a7 (by omega) hr8 (by omega) hd (hgo z _ _ hzk (z_fr_c1 (z_at_lt (by rw [← a1', he]; decide))) h)
      · rename_i he
        exact zj_cp2 hx hb hml hE.1 hAp hown (hts _ hl) (hts _ z_acN) (hts _ z_acS) (hts _ z_acI) he (a1'.symm.trans he) a3 a4 a5 a6 a7 (by omega) hr8 (by omega) hd (hgo z _ _ hzk (z_fr.rf _) h)
      · cases h
    · cases h
  · rcases hk with ⟨rfl, hiw, hl⟩ | ⟨rfl, hiw, hl⟩ | ⟨rfl, hiw, hl⟩
    · rw [z_call0] at h
      obtain ⟨as, rest, hst0, hlen, hr8, h⟩ := z_cB_ok h
      obtain ⟨o, S1, hE1, hres⟩ := z_cany h
      by_cases h7 : m' = 187
      · subst h7
        obtain ⟨x, y, rfl, rfl, rfl⟩ := hM7 _ _ _ _ (hlen.trans (hn.trans rfl)) hE1
        rcases hres with ⟨v, hv, hg⟩ | ⟨ee, he, -⟩
        · cases hv
          obtain ⟨hx, hb, hml, hown, hts, hE, hAp, hRf, hRl⟩ := hctx
          have hst1 : st = .int y :: .int x :: rest := hst0
          rw [hst1]
          intro ls H locs h1 h2
          exact va_mmax hx hb (by rw [hml]; exact h1.1.symm) hown (hts _ hl) (hts _ hs) (hts _ (z_okM_ok hm).1) (hts _ (z_cwA 187 hm)) (by omega) (by rw [z_csum]; omega) hcz.1 hcz.2 hd (hgo z _ _ hzk (z_fr.rf _) hg ls H locs h1 h2)
        · cases he
      · by_cases h8 : m' = 188
        · subst h8
          obtain ⟨x, y, rfl, rfl, rfl⟩ := hM8 _ _ _ _ (hlen.trans (hn.trans rfl)) hE1
          rcases hres with ⟨v, hv, hg⟩ | ⟨ee, he, -⟩
          · cases hv
            obtain ⟨hx, hb, hml, hown, hts, hE, hAp, hRf, hRl⟩ := hctx
            have hst1 : st = .int y :: .int x :: rest := hst0
            rw [hst1]
            intro ls H locs h1 h2
            exact va_mmin hx hb (by rw [hml]; exact h1.1.symm) hown (hts _ hl) (hts _ hs) (hts _ (z_okM_ok hm).1) (hts _ (z_cwA 188 hm)) (by omega) (by rw [z_csum]; omega) hcz.1 hcz.2 hd (hgo z _ _ hzk (z_fr.rf _) hg ls H locs h1 h2)
          · cases he
        · exact zm_after (hF m' _ S o S1 hm hE1) hiw hzk hst0 hRl (fun hcell ls H locs h1 h2 => zm_run0 hctx hm (hC m' _ S o S1 hm h7 h8 (fun q => absurd (hiw.symm.trans q) (by decide)) hE1) hiw (hlen.trans hn) hl hs hr8 hd hcell ls H locs h1 h2) hres hgo hX
    · rw [z_call1] at h
      obtain ⟨as, rest, hst0, hlen, hr8, h⟩ := z_cB_ok h
      obtain ⟨o, S1, hE1, hres⟩ := z_cany h
      by_cases h7 : m' = 187
      · subst h7
        exact absurd rfl (z_nwM hl)
      · by_cases h8 : m' = 188
        · subst h8
          exact absurd rfl (z_nwM hl)
        · exact zm_after (hF m' _ S o S1 hm hE1) hiw hzk hst0 hRl (fun hcell ls H locs h1 h2 => zm_run1 hctx hm (hC m' _ S o S1 hm h7 h8 (fun q => absurd (hiw.symm.trans q) (by decide)) hE1) hiw (hlen.trans hn) hl hs hr8 hd hcell ls H locs h1 h2) hres hgo hX
    · rw [z_call4] at h
      obtain ⟨as, rest, hst0, hlen, hr8, h⟩ := z_cB_ok h
      obtain ⟨hb1, h⟩ := z_cnd h
      simp only [Bool.and_eq_true] at hb1
      obtain ⟨hlm, hz1⟩ := hb1
      have hz2 : z < 100000 := Nat.blt_eq.mp hz1
      have hR := hRl hlm
      have hne : m' ≠ 187 ∧ m' ≠ 188 := by
        constructor
        · intro q; subst q; exact absurd hiw (by decide +kernel)
        · intro q; subst q; exact absurd hiw (by decide +kernel)
      rcases z_cli_ok h with ⟨x, S1, h1, h2⟩ | ⟨ee, S1, h1, h2⟩
      · have hC1 := hC m' _ S _ S1 hm hne.1 hne.2 (fun _ => ⟨_, rfl⟩) h1
        have hcell : z + z_mcz (z_isw m') (.inl (some (.int x)) : z_Out) ≤ R.cells ∧ 6 * z + 6 * z_mcz (z_isw m') (.inl (some (.int x)) : z_Out) ≤ R.slots := by
          rw [hiw]; simp only [z_mcz, cond_true]; omega
        rw [hst0]
        refine zj_call (fun ls H locs q1 q2 => zm_run4 hctx hm hC1 hiw (hlen.trans hn) hl hs hr8 hd hcell ls H locs q1 q2) (fun w hw => ?_) (fun ee he => by cases he)
        cases hw
        rw [hiw]
        exact hgo (z + 1) _ _ ⟨fun q => absurd (hlm.symm.trans q) (by decide), by omega⟩ (hF m' _ S _ S1 hm h1) h2
      · cases h2
end ZD
