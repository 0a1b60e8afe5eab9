/-! constructors: the world as it grows, thing by thing, from the cell B on -/
def z_ke (cA : Nat → ClassId) (F : Nat → List Value) (g : Nat → Option Nat) (a : Nat) : va_E := match z_at a with
  | 0 => .inr (z_oc a, F a)
  | 4 => .inl (cA 4, z_ln a, .inr (.inl (fun _ => 0)))
  | 5 => .inl (cA 5, z_ln a, .inr (.inr (.inr (.inr g))))
  | t => .inl (cA t, z_ln a, .inl (fun _ => 0))
def z_kw (ρ : Nat → Nat) (cA : Nat → ClassId) (k : Nat) (F : Nat → List Value) (g : Nat → Option Nat) : va_W := (List.range k).map (fun a => (ρ a, z_ke cA F g a))
def z_fu (F : Nat → List Value) (a : Nat) (fs : List Value) : Nat → List Value := fun b => if b = a then fs else F b
section ZKW
variable {ρ : Nat → Nat} {cA : Nat → ClassId} {F F' : Nat → List Value} {g g' : Nat → Option Nat} {B : Nat}
theorem z_kw_len {k : Nat} : (z_kw ρ cA k F g).length = k := by simp [z_kw]
theorem z_kw_get {k a : Nat} (h : a < k) : (z_kw ρ cA k F g)[a]? = some (ρ a, z_ke cA F g a) := by simp [z_kw, h]
theorem z_kw_succ {k : Nat} : z_kw ρ cA (k + 1) F g = z_kw ρ cA k F g ++ [(ρ k, z_ke cA F g k)] := by simp [z_kw, List.range_succ]
theorem z_kw_cg {k : Nat} (h : ∀ a, a < k → z_ke cA F' g' a = z_ke cA F g a) : z_kw ρ cA k F' g' = z_kw ρ cA k F g := by
  unfold z_kw
  apply List.map_congr_left
  intro a ha
  rw [h a (List.mem_range.mp ha)]
theorem z_kw_set {k a : Nat} {e : va_E} (h : a < k) (he : z_ke cA F' g' a = e) (ho : ∀ b, b < k → b ≠ a → z_ke cA F' g' b = z_ke cA F g b) : (z_kw ρ cA k F g).set a (ρ a, e) = z_kw ρ cA k F' g' := by
  apply List.ext_getElem?
  intro b
  rw [List.getElem?_set]
  by_cases hb : b < k
  · by_cases hab : a = b
    · subst hab
      rw [if_pos rfl, if_pos (by rw [z_kw_len]; exact h), z_kw_get h, he]
    · rw [if_neg hab, z_kw_get hb, z_kw_get hb, ho b hb (fun q => hab q.symm)]
  · have h1 : (z_kw ρ cA k F g)[b]? = none := List.getElem?_eq_none (by rw [z_kw_len]; omega)
    have h2 : (z_kw ρ cA k F' g')[b]? = none := List.getElem?_eq_none (by rw [z_kw_len]; omega)
    by_cases hab : a = b
    · subst hab; exact absurd h hb
    · rw [if_neg hab, h1, h2]
theorem z_ke_o {a : Nat} (ht : z_at a = 0) : z_ke cA F g a = .inr (z_oc a, F a) := by unfold z_ke; rw [ht]; rfl
theorem z_ke_q {a : Nat} (ht : z_at a = 5) : z_ke cA F g a = .inl (cA 5, z_ln a, .inr (.inr (.inr (.inr g)))) := by unfold z_ke; rw [ht]; rfl
theorem z_ke_fu {a b : Nat} {fs : List Value} (h : b ≠ a) : z_ke cA (z_fu F a fs) g b = z_ke cA F g b := by
  have e : z_fu F a fs b = F b := if_neg h
  unfold z_ke
  rw [e]
theorem z_ke_g {b : Nat} (h : z_at b ≠ 5) : z_ke cA F g' b = z_ke cA F g b := by
  unfold z_ke
  split
  · rfl
  · rfl
  · rename_i q; exact absurd q h
  · rfl
theorem z_kwD {k : Nat} (hk : k ≤ z_n) (hρ : ∀ a, a < z_n → ρ a = B + a) : va_D (fun q => B ≤ q) (z_kw ρ cA k F g) := by
  have hg : ∀ i x, (z_kw ρ cA k F g)[i]? = some x → i < k ∧ x = (ρ i, z_ke cA F g i) := by
    intro i x hi
    have hl : i < k := by
      have := (List.getElem?_eq_some_iff.mp hi).1
      rwa [z_kw_len] at this
    rw [z_kw_get hl] at hi
    exact ⟨hl, (Option.some.inj hi).symm⟩
  refine ⟨fun i j x y hi hj hxy => ?_, fun i x hi => ?_⟩
  · obtain ⟨h1, rfl⟩ := hg i x hi
    obtain ⟨h2, rfl⟩ := hg j y hj
    dsimp only at hxy
    rw [hρ i (by omega), hρ j (by omega)] at hxy
    omega
  · obtain ⟨h1, rfl⟩ := hg i x hi
    show B ≤ ρ i
    rw [hρ i (by omega)]
    omega
end ZKW
def z_Gd (B : Nat) (D : va_G) (ρ : Nat → Nat) (cA : Nat → ClassId) (k : Nat) (F : Nat → List Value) (g : Nat → Option Nat) (s : State) (H : Heap) (locs : List Loc) : Prop := H.size = B + k ∧ va_P D z_cls (z_kw ρ cA k F g) H ∧ va_S (fun q => B ≤ q) s.heap H locs
def z_G (p : Program) (l : Launch) (e : Env) (R : Room) (s : State) (m : MethodId) (args : Array Value) (below : List Frame) (meth : Method) (c : Code) (Q : State → Prop) (B : Nat) (D : va_G) (ρ : Nat → Nat) (cA : Nat → ClassId) (ls : Array Slot) (k : Nat) (F : Nat → List Value) (g : Nat → Option Nat) (cells slots pc : Nat) (st : List Value) : Prop :=
  ∀ (H : Heap) (locs : List Loc), z_Gd B D ρ cA k F g s H locs → W p l e R s m args below meth c H locs cells slots Q (F0 m pc ls st)
def z_strC : List (Nat × String × Nat) := [(9, "page", 1211), (11, "left", 1212), (13, "into", 1213), (15, "read", 1214), (17, "hour", 1215), (19, "day", 1216), (21, "book", 1201)]
def z_kE (B : Nat) (D : va_G) (cA : Nat → ClassId) (ρ : Nat → Nat) (U : State) : Prop := z_Env B D cA ρ U ∧ va_AO "java/lang/String" U ∧ ∀ q ∈ z_strC, vk_R "SlipRoomModel" q.1 q.2.1 (ρ q.2.2) U
theorem z_kE.next {B : Nat} {D : va_G} {cA : Nat → ClassId} {ρ : Nat → Nat} {s U : State} (hW : s.WarmedH U.vm) (hq : ∀ a : Nat, a < s.heap.size → ¬ B ≤ a → U.heap[a]? = s.heap[a]?) (h : z_kE B D cA ρ s) : z_kE B D cA ρ U := ⟨h.1.next hW hq, va_AO.moved hW.alike h.2.1, fun q hq => vk_R.warm hW (h.2.2 q hq)⟩
theorem z_kE.calls {B : Nat} {D : va_G} {cA : Nat → ClassId} {ρ : Nat → Nat} {U : State} (fr : JFrame) (mk : MethodId) (a : Array Value) (h : z_kE B D cA ρ U) : z_kE B D cA ρ (U.calling fr mk a) :=
  h.next (U := U.calling fr mk a) (State.WarmedH.refl U) (fun _ _ _ => rfl)
def z_kC (p : Program) (s : State) (m : MethodId) (args : Array Value) (c : Code) (B : Nat) (D : va_G) (ρ : Nat → Nat) (cA : Nat → ClassId) (nL : Nat) (cc : ByteArray) (own : String) : Prop :=
  p.tables.exec = Jvm.exec ∧ c.code = cc ∧ c.maxLocals = nL ∧ s.vm.findClass own = some m.cls ∧ (∀ w ∈ z_tb, w.before args s = true) ∧ z_kE B D cA ρ s ∧ ∀ a, a < z_n → ρ a = B + a
def z_kP (B : Nat) (D : va_G) (ρ : Nat → Nat) (cA : Nat → ClassId) (as : List Value) (k : Nat) (F : Nat → List Value) (g : Nat → Option Nat) : Array Value → State → Prop := va_Pc as (fun U => z_kE B D cA ρ U ∧ U.heap.size = B + k ∧ va_P D z_cls (z_kw ρ cA k F g) U.heap)
def z_kQ (B : Nat) (D : va_G) (ρ : Nat → Nat) (cA : Nat → ClassId) (k : Nat) (F : Nat → List Value) (g : Nat → Option Nat) : Array Value → State → Outcome → State → Prop := va_Qv (S := Unit) (fun _ => True) (fun _ t => t.heap.size = B + k ∧ va_P D z_cls (z_kw ρ cA k F g) t.heap) (fun q => B ≤ q)
theorem z_kP.blind {B : Nat} {D : va_G} {ρ : Nat → Nat} {cA : Nat → ClassId} {as : List Value} {k : Nat} {F : Nat → List Value} {g : Nat → Option Nat} : FrameBlind (z_kP B D ρ cA as k F g) := fun a U fr mk q => ⟨q.1, q.2.1.calls fr mk a, q.2.2⟩
section ZK
variable {p : Program} {l : Launch} {e : Env} {R : Room} {s : State} {m : MethodId} {args : Array Value} {below : List Frame} {meth : Method} {c : Code} {Q : State → Prop} {B : Nat} {D : va_G} {ρ : Nat → Nat} {cA : Nat → ClassId} {ls : Array Slot} {nL : Nat} {cc : ByteArray} {own : String}
variable {k cells slots pc pc' : Nat} {F : Nat → List Value} {g : Nat → Option Nat} {st rest : List Value}
theorem zk_aload (C : z_kC p s m args c B D ρ cA nL cc own) {i : Fin 4} {x : Nat} (hd : decode cc pc = .ok (.aload_n i, 1)) (hl : ls[(i : Nat)]? = some (.val (.ref x))) (hp : pc + 1 = pc') (h : z_G p l e R s m args below meth c Q B D ρ cA ls k F g cells slots pc' (.ref x :: st)) : z_G p l e R s m args below meth c Q B D ρ cA ls k F g cells slots pc st := fun H locs hw => by
  subst hp
  exact lv_aload_n C.1 C.2.1 hd rfl hl (h H locs hw)
theorem zk_iconst (C : z_kC p s m args c B D ρ cA nL cc own) {n : Int} {v : Int32} (hd : decode cc pc = .ok (.iconst n, 1)) (hv : Int32.ofInt n = v) (hp : pc + 1 = pc') (h : z_G p l e R s m args below meth c Q B D ρ cA ls k F g cells slots pc' (.int v :: st)) : z_G p l e R s m args below meth c Q B D ρ cA ls k F g cells slots pc st := fun H locs hw => by
  subst hp
  exact lv_iconst C.1 C.2.1 hd hv (h H locs hw)
theorem zk_bipush (C : z_kC p s m args c B D ρ cA nL cc own) {n : Int} {v : Int32} (hd : decode cc pc = .ok (.bipush n, 2)) (hv : (Int8.ofInt n).toInt32 = v) (hp : pc + 2 = pc') (h : z_G p l e R s m args below meth c Q B D ρ cA ls k F g cells slots pc' (.int v :: st)) : z_G p l e R s m args below meth c Q B D ρ cA ls k F g cells slots pc st := fun H locs hw => by
  subst hp
  exact lv_bipush C.1 C.2.1 hd hv (h H locs hw)
theorem zk_sipush (C : z_kC p s m args c B D ρ cA nL cc own) {n : Int} {v : Int32} (hd : decode cc pc = .ok (.sipush n, 3)) (hv : (Int16.ofInt n).toInt32 = v) (hp : pc + 3 = pc') (h : z_G p l e R s m args below meth c Q B D ρ cA ls k F g cells slots pc' (.int v :: st)) : z_G p l e R s m args below meth c Q B D ρ cA ls k F g cells slots pc st := fun H locs hw => by
  subst hp
  exact lv_sipush C.1 C.2.1 hd hv (h H locs hw)
theorem zk_dup (C : z_kC p s m args c B D ρ cA nL cc own) {v : Value} (hv : v.category = 1) (hd : decode cc pc = .ok (.dup, 1)) (hp : pc + 1 = pc') (h : z_G p l e R s m args below meth c Q B D ρ cA ls k F g cells slots pc' (v :: v :: st)) : z_G p l e R s m args below meth c Q B D ρ cA ls k F g cells slots pc (v :: st) := fun H locs hw => by
  subst hp
  exact lv_dup C.1 C.2.1 hd hv (h H locs hw)
theorem zk_newa (C : z_kC p s m args c B D ρ cA nL cc own) {atype : ArrayType} {ty : FieldType} {t N : Nat} {n : Int32} {a0 : vp_A} (hty : newarray.typeOf atype = ty) (harr : Cond.arrayClass ty ∈ z_tb) (hcA : s.vm.findClass ("[" ++ ty.toString) = some (cA t)) (hke : z_ke cA F g k = .inl (cA t, a0)) (ha : vp_cell (cA t) a0 = arrV (cA t) N (fun _ => defaultValue ty)) (hk : k < z_n)
    (hn : ¬ n < 0) (hN : n.toNatClampNeg = N) (hbytes : N * componentBytes ty ≤ 536870912) (hcells : cells + 1 ≤ R.cells) (hslots : slots + N ≤ R.slots) (hd : decode cc pc = .ok (.newarray atype, 2)) (hp : pc + 2 = pc') (h : z_G p l e R s m args below meth c Q B D ρ cA ls (k + 1) F g (cells + 1) (slots + N) pc' (.ref (ρ k) :: st)) : z_G p l e R s m args below meth c Q B D ρ cA ls k F g cells slots pc (.int n :: st) := fun H locs hw => by
  subst hp
  obtain ⟨hx, hb, hml, hown, hts, hE, hρ⟩ := C
  obtain ⟨h1, h2, h3⟩ := hw
  subst hty
  have e0 := hρ k hk
  refine va_newaK hx hb (hts _ harr) rfl hd rfl hn hN hbytes hcells hslots h1 fun H1 cA' e1 z1 o1 hAr hNm => ?_
  have hc : cA' = cA t := Option.some.inj (hNm.symm.trans hcA)
  subst hc
  have hkeep : ∀ (j : Nat) (x : Nat × va_E), (z_kw ρ cA k F g)[j]? = some x → H1[x.1]? = H[x.1]? := fun j x hx => o1 x.1 (by have := (h2 j x hx).lt; omega)
  have hnew : va_at D z_cls (ρ k, z_ke cA F g k) H1 := by
    rw [hke]
    show H1[ρ k]? = some (vp_cell (cA t) a0)
    rw [ha, e0]
    exact e1
  have := h H1 locs ⟨by omega, by
    rw [z_kw_succ]
    refine (h2.kept hkeep).app (fun j x hx => ?_)
    have hz : j < 1 := (List.getElem?_eq_some_iff.mp hx).1
    have hz0 : j = 0 := by omega
    subst hz0
    cases hx
    exact hnew, ⟨Nat.le_trans h3.1 (by omega), fun x q1 q2 => (o1 x (by have := h3.1; omega)).trans (h3.2.1 x q1 q2), h3.2.2⟩⟩
  rw [e0] at this
  exact this
theorem zk_newq (C : z_kC p s m args c B D ρ cA nL cc own) {ix N : Nat} {n : Int32} (hl : Cond.classLink own ix "java/lang/String" ∈ z_tb) (ht : z_at k = 5) (hln : z_ln k = N) (hg0 : ∀ j, g j = none) (hk : k < z_n)
    (hn : ¬ n < 0) (hN : n.toNatClampNeg = N) (hbytes : N * 4 ≤ 536870912) (hcells : cells + 1 ≤ R.cells) (hslots : slots + N ≤ R.slots) (hd : decode cc pc = .ok (.anewarray ix, 3)) (hp : pc + 3 = pc') (h : z_G p l e R s m args below meth c Q B D ρ cA ls (k + 1) F g (cells + 1) (slots + N) pc' (.ref (ρ k) :: st)) : z_G p l e R s m args below meth c Q B D ρ cA ls k F g cells slots pc (.int n :: st) := fun H locs hw => by
  subst hp
  obtain ⟨hx, hb, hml, hown, hts, hE, hρ⟩ := C
  obtain ⟨h1, h2, h3⟩ := hw
  have e0 := hρ k hk
  subst hN
  refine W.anew hx hb hown (hts _ hl) (va_AO.use hE.2.1) rfl hd rfl hn hbytes hcells hslots fun cA' kA comp f1 f2 f3 f4 => ?_
  generalize hH1 : H.push ({ cls := cA', slots := Array.replicate n.toNatClampNeg .null, vm := .none } : Cell) = H1
  have z1 : H1.size = H.size + 1 := by rw [← hH1, Array.size_push]
  have e1 : H1[H.size]? = some (arrV cA' n.toNatClampNeg (fun _ => .null)) := by rw [← hH1, Array.getElem?_push_size, ← arrV_new]
  have o1 : ∀ q : Nat, q < H.size → H1[q]? = H[q]? := fun q hq => by rw [← hH1, Array.getElem?_push, if_neg (Nat.ne_of_lt hq)]
  obtain ⟨kA2, comp2, q1, q2, q3, q4⟩ := (hE.1.1.2 4 (cA 5, .object "java/lang/String") rfl).2
  have hc : cA' = cA 5 := Option.some.inj (f1.symm.trans q4)
  subst hc
  have hgn : g = fun _ => none := funext hg0
  have hkeep : ∀ (j : Nat) (x : Nat × va_E), (z_kw ρ cA k F g)[j]? = some x → H1[x.1]? = H[x.1]? := fun j x hx => o1 x.1 ((h2 j x hx).lt)
  have hnew : va_at D z_cls (ρ k, z_ke cA F g k) H1 := by
    rw [z_ke_q ht]
    show H1[ρ k]? = some (vp_cell (cA 5) (z_ln k, .inr (.inr (.inr (.inr g)))))
    rw [e0, ← h1, e1, hln, hgn]
    rfl
  have := h H1 locs ⟨by omega, by
    rw [z_kw_succ]
    refine (h2.kept hkeep).app (fun j x hx => ?_)
    have hz : j < 1 := (List.getElem?_eq_some_iff.mp hx).1
    have hz0 : j = 0 := by omega
    subst hz0
    cases hx
    exact hnew, ⟨Nat.le_trans h3.1 (by omega), fun x q1 q2 => (o1 x (by have := h3.1; omega)).trans (h3.2.1 x q1 q2), h3.2.2⟩⟩
  rw [e0, ← h1] at this
  exact this
theorem zk_new (C : z_kC p s m args c B D ρ cA nL cc own) {cl ix N : Nat} {fs : List Value} (hcl : cl < 10) (hl : Cond.classLink own ix (z_own.getD cl "") ∈ z_tb) (hins : Cond.instantiable (z_own.getD cl "") (z_nf cl) ∈ z_tb) (hini : Cond.initialized (z_own.getD cl "") ∈ z_tb) (hk : k < z_n) (ht : z_at k = 0) (hoc : z_oc k = cl) (hN : z_nf cl = N)
    (hfs : ∀ j, j < z_nf cl → defaultValue (z_ty cl j) = vp_V fs j) (hcells : cells + 1 ≤ R.cells) (hslots : slots + N ≤ R.slots) (hd : decode cc pc = .ok (.new ix, 3)) (hp : pc + 3 = pc') (h : z_G p l e R s m args below meth c Q B D ρ cA ls (k + 1) (z_fu F k fs) g (cells + 1) (slots + N) pc' (.ref (ρ k) :: st)) : z_G p l e R s m args below meth c Q B D ρ cA ls k F g cells slots pc st := fun H locs hw => by
  subst hp
  obtain ⟨hx, hb, hml, hown, hts, hE, hρ⟩ := C
  obtain ⟨h1, h2, h3⟩ := hw
  have e0 := hρ k hk
  have hc := z_cls_TT cl hcl
  have hKn := hE.1.1.1 cl _ hc
  subst hN
  refine W.newcK hx hb hown (hts _ hl) (hts _ hins) (hts _ hini) rfl hd hcells hslots hKn.2.1 h1 fun H1 kC hkC e1 z1 o1 => ?_
  have hkeep : ∀ (j : Nat) (x : Nat × va_E), (z_kw ρ cA k F g)[j]? = some x → H1[x.1]? = H[x.1]? := fun j x hx => o1 x.1 (by have := (h2 j x hx).lt; omega)
  have hsame : z_kw ρ cA k (z_fu F k fs) g = z_kw ρ cA k F g := z_kw_cg (fun a ha => z_ke_fu (by omega))
  have hnew : va_at D z_cls (ρ k, z_ke cA (z_fu F k fs) g k) H1 := by
    have e2 : z_fu F k fs k = fs := if_pos rfl
    rw [z_ke_o ht, hoc, e2]
    refine ⟨_, hc, ?_⟩
    rw [e0]
    exact (u_born (z_ty cl) hts (z_uw cl hcl) hKn hkC e1 (z_ty_ok cl hcl)).to hfs
  have := h H1 locs ⟨by omega, by
    rw [z_kw_succ, hsame]
    refine (h2.kept hkeep).app (fun j x hx => ?_)
    have hz : j < 1 := (List.getElem?_eq_some_iff.mp hx).1
    have hz0 : j = 0 := by omega
    subst hz0
    cases hx
    exact hnew, ⟨Nat.le_trans h3.1 (by omega), fun x q1 q2 => (o1 x (by have := h3.1; omega)).trans (h3.2.1 x q1 q2), h3.2.2⟩⟩
  rw [e0] at this
  exact this
theorem zk_put (C : z_kC p s m args c B D ρ cA nL cc own) {cl a j ix : Nat} {fs fs' : List Value} {v : Value} {ty : FieldType} (hcl : cl < 10) (hj : j < z_nf cl) (hl : Cond.fieldLink own ix (z_TT cl j).1 (z_TT cl j).2.1 (z_TT cl j).2.2.1 ∈ z_tb) (hin2 : meth.name = "<init>") (hdecl : (z_TT cl j).1 = own) (hty : z_ty cl j = ty) (hn : narrow ty v = v) (hfit : fits ty v = true)
    (ha : a < k) (hk : k ≤ z_n) (ht : z_at a = 0) (hoc : z_oc a = cl) (hF : F a = fs) (hlen : j < fs.length) (hfs : fs.set j v = fs') (hd : decode cc pc = .ok (.putfield ix, 3)) (hp : pc + 3 = pc') (h : z_G p l e R s m args below meth c Q B D ρ cA ls k (z_fu F a fs') g cells slots pc' st) : z_G p l e R s m args below meth c Q B D ρ cA ls k F g cells slots pc (v :: .ref (ρ a) :: st) := fun H locs hw => by
  subst hp
  obtain ⟨hx, hb, hml, hown, hts, hE, hρ⟩ := C
  obtain ⟨h1, h2, h3⟩ := hw
  subst hty; subst hfs
  have hc := z_cls_TT cl hcl
  have he : (z_kw ρ cA k F g)[a]? = some (ρ a, .inr (cl, fs)) := by rw [z_kw_get ha, z_ke_o ht, hoc, hF]
  have hset : (z_kw ρ cA k F g).set a (ρ a, .inr (cl, fs.set j v)) = z_kw ρ cA k (z_fu F a (fs.set j v)) g := by
    refine z_kw_set ha ?_ (fun b _ hb => z_ke_fu hb)
    have e2 : z_fu F a (fs.set j v) a = fs.set j v := if_pos rfl
    rw [z_ke_o ht, hoc, e2]
  have hsz : ∀ (H1 : Heap) (locs1 : List Loc), va_P D z_cls ((z_kw ρ cA k F g).set a (ρ a, .inr (cl, fs.set j v))) H1 → H1.size = H.size → va_S (fun q => B ≤ q) s.heap H1 locs1 → W p l e R s m args below meth c H1 locs1 cells slots Q (F0 m (pc + 3) ls st) := fun H1 locs1 q1 q2 q3 => h H1 locs1 ⟨by omega, by rw [← hset]; exact q1, q3⟩
  have hD := z_kwD (ρ := ρ) (cA := cA) (F := F) (g := g) hk hρ
  have hap := va_apart (own := own) hts (z_uw cl hcl) (z_ty cl) (z_ty_ok cl hcl) (z_nm_ok cl hcl) hE.1.1 hc
  obtain ⟨r, k1, cell, q1, q2, q3, q4⟩ := h2 a _ he
  have hr : r = (z_own.getD cl "", z_TT cl, z_nf cl) := Option.some.inj (k1.symm.trans hc)
  subst hr
  obtain ⟨hS, hfc, kC, hkC, hkind⟩ := hE.1.1.1 cl _ hc
  obtain ⟨cf, kf, fi, f, hi, hsl⟩ := hS j hj
  have hlay := hts _ (z_uw cl hcl _ (u_in_lay hj))
  unfold u_lay at hlay
  have hst := (u_facts hfc hkC (u_lays hts (z_uw cl hcl) hj) hi).1
  cases hfin : (z_TT cl j).2.2.2 with
  | false =>
    rw [if_neg (by rw [hfin]; decide)] at hlay
    have h6 := u_store hfc hkC hkind hlay hi (z_ty_ok cl hcl j hj) hn hfit
    refine W.putK hx hb (f := f) ⟨hown, hts _ hl, ⟨_, _, _, hi⟩, hst⟩ (by rw [q2]; exact h6) q1 q3 (by rw [hsl]; exact k2_hasslot (q4 j hj)) rfl rfl hd fun H' e1 e2 e3 => ?_
    rw [hsl] at e1 ⊢
    exact hsz H' _ (h2.set hD he ⟨_, hc, t_OB.to (V := updV (vp_V fs) j v) ⟨_, e1, q2, q3, t_set q4 hap hj v⟩ (fun i _ => vp_updV_set hlen v i)⟩ e3) e2 (h3.put e2 e3 (hD.2 a _ he))
  | true =>
    rw [if_pos hfin] at hlay
    have hcf : m.cls = cf := by
      obtain ⟨_, _, c', _, _, _, -, -, hf', -, -, -, hown2, -⟩ := Cond.laysFinal_spec hlay
      have e1 : c' = cf := by
        have := hi.symm.trans hf'
        simp at this
        exact this.1.symm
      rw [hdecl] at hown2
      rw [← e1]
      exact Option.some.inj (hown.symm.trans hown2)
    have h6 := u_fits hfc hkC hkind (Or.inr hlay) hi (z_ty_ok cl hcl j hj) hn hfit
    refine W.putFinK hx hb hown (hts _ hl) hi hst hcf hin2 (by rw [q2]; exact h6) q1 q3 (by rw [hsl]; exact k2_hasslot (q4 j hj)) rfl rfl hd fun H' e1 e2 e3 => ?_
    rw [hsl] at e1 ⊢
    exact hsz H' _ (h2.set hD he ⟨_, hc, t_OB.to (V := updV (vp_V fs) j v) ⟨_, e1, q2, q3, t_set q4 hap hj v⟩ (fun i _ => vp_updV_set hlen v i)⟩ e3) e2 (h3.put e2 e3 (hD.2 a _ he))
theorem z_fu2 {F : Nat → List Value} {a : Nat} {f1 f2 : List Value} : z_fu (z_fu F a f1) a f2 = z_fu F a f2 := by
  funext b
  by_cases h : b = a
  · simp [z_fu, h]
  · simp [z_fu, h]
theorem zk_put2 (C : z_kC p s m args c B D ρ cA nL cc own) {cl a j ix : Nat} {fs fs' : List Value} {v : Value} {ty : FieldType} (hcl : cl < 10) (hj : j < z_nf cl) (hl : Cond.fieldLink own ix (z_TT cl j).1 (z_TT cl j).2.1 (z_TT cl j).2.2.1 ∈ z_tb) (hin2 : meth.name = "<init>") (hdecl : (z_TT cl j).1 = own) (hty : z_ty cl j = ty) (hn : narrow ty v = v) (hfit : fits ty v = true)
    (ha : a < k) (hk : k ≤ z_n) (ht : z_at a = 0) (hoc : z_oc a = cl) (hlen : j < fs.length) (hfs : fs.set j v = fs') (hd : decode cc pc = .ok (.putfield ix, 3)) (hp : pc + 3 = pc') (h : z_G p l e R s m args below meth c Q B D ρ cA ls k (z_fu F a fs') g cells slots pc' st) : z_G p l e R s m args below meth c Q B D ρ cA ls k (z_fu F a fs) g cells slots pc (v :: .ref (ρ a) :: st) :=
  zk_put C hcl hj hl hin2 hdecl hty hn hfit ha hk ht hoc (if_pos rfl) hlen hfs hd hp (by rw [z_fu2]; exact h)
theorem zk_get (C : z_kC p s m args c B D ρ cA nL cc own) {cl a j ix : Nat} {fs : List Value} {v : Value} (hcl : cl < 10) (hj : j < z_nf cl) (hl : Cond.fieldLink own ix (z_TT cl j).1 (z_TT cl j).2.1 (z_TT cl j).2.2.1 ∈ z_tb) (ha : a < k) (ht : z_at a = 0) (hoc : z_oc a = cl) (hF : F a = fs) (hv : fs[j]? = some v) (hd : decode cc pc = .ok (.getfield ix, 3)) (hp : pc + 3 = pc') (h : z_G p l e R s m args below meth c Q B D ρ cA ls k F g cells slots pc' (v :: st)) : z_G p l e R s m args below meth c Q B D ρ cA ls k F g cells slots pc (.ref (ρ a) :: st) := fun H locs hw => by
  subst hp
  obtain ⟨hx, hb, hml, hown, hts, hE, hρ⟩ := C
  have he : (z_kw ρ cA k F g)[a]? = some (ρ a, .inr (cl, fs)) := by rw [z_kw_get ha, z_ke_o ht, hoc, hF]
  exact va_get hx hb hts (z_uw cl hcl) hown hE.1.1 hw.2.1 a he (z_cls_TT cl hcl) j hj (hts _ hl) (fun _ q => q) hv hd (h H locs hw)
theorem zk_gets (C : z_kC p s m args c B D ρ cA nL cc own) {ix nest ti : Nat} (hl : z_okW own ix "OTHER" "LSlipRoom$Word;" nest ti = true) (hd : decode cc pc = .ok (.getstatic ix, 3)) (hp : pc + 3 = pc') (h : z_G p l e R s m args below meth c Q B D ρ cA ls k F g cells slots pc' (.ref (ρ 1000) :: st)) : z_G p l e R s m args below meth c Q B D ρ cA ls k F g cells slots pc st := fun H locs hw => by
  subst hp
  obtain ⟨hx, hb, hml, hown, hts, hE, hρ⟩ := C
  have hZ := hE.1.2.2.1.2.2.1 0 (by decide)
  rcases z_okW_link hts hE.1.2.1 hl with hlink | ⟨host, hlink⟩
  · exact va_gets hx hb hZ hw.2.2 hown hlink (fun _ h9 => h9) hd (h H locs hw)
  · exact va_getsN hx hb hZ hw.2.2 hown hlink (fun _ h9 => h9) hd (h H locs hw)
theorem zk_ldcs (C : z_kC p s m args c B D ρ cA nL cc own) {ix v : Nat} {tx : String} (hown2 : own = "SlipRoomModel") (hq : (ix, tx, v) ∈ z_strC) (hd : decode cc pc = .ok (.ldc ix, 2)) (hp : pc + 2 = pc') (h : z_G p l e R s m args below meth c Q B D ρ cA ls k F g cells slots pc' (.ref (ρ v) :: st)) : z_G p l e R s m args below meth c Q B D ρ cA ls k F g cells slots pc st := fun H locs hw T hT X => by
  subst hp
  obtain ⟨hx, hb, hml, hown, hts, hE, hρ⟩ := C
  subst hown2
  have hk := hE.2.2 _ hq
  obtain ⟨t, a1, b1⟩ := h H locs hw T hT X
  subst hb
  exact ⟨t, X.ldcString hx (text := tx) hown hk.1 hk.2 (g := F0 m pc ls st) rfl hd t a1, b1⟩
theorem zk_astq (C : z_kC p s m args c B D ρ cA nL cc own) {a j N : Nat} {i : Int32} (hj : j < 17) (ha : a < k) (hk : k ≤ z_n) (ht : z_at a = 5) (hu : ∀ b, b < z_n → z_at b = 5 → b = a) (hln : z_ln a = N) (hin : vp_in i N) (hd : decode cc pc = .ok (.aastore, 1)) (hp : pc + 1 = pc') (h : z_G p l e R s m args below meth c Q B D ρ cA ls k F (va_up g i.toNatClampNeg (some (ρ (1200 + j)))) cells slots pc' st) : z_G p l e R s m args below meth c Q B D ρ cA ls k F g cells slots pc (.ref (ρ (1200 + j)) :: .int i :: .ref (ρ a) :: st) := fun H locs hw => by
  subst hp
  obtain ⟨hx, hb, hml, hown, hts, hE, hρ⟩ := C
  obtain ⟨h1, h2, h3⟩ := hw
  have he : (z_kw ρ cA k F g)[a]? = some (ρ a, .inl (cA 5, N, .inr (.inr (.inr (.inr g))))) := by rw [z_kw_get ha, z_ke_q ht, hln]
  have hset : (z_kw ρ cA k F g).set a (ρ a, .inl (cA 5, N, .inr (.inr (.inr (.inr (va_up g i.toNatClampNeg (some (ρ (1200 + j))))))))) = z_kw ρ cA k F (va_up g i.toNatClampNeg (some (ρ (1200 + j)))) := by
    refine z_kw_set ha (by rw [z_ke_q ht, hln]) (fun b hb hne => z_ke_g (fun q => hne (hu b (by omega) q)))
  have hD := z_kwD (ρ := ρ) (cA := cA) (F := F) (g := g) hk hρ
  obtain ⟨cellV, g1, g2, g3, g4⟩ := ((hE.1.2.2.1.2.2.2.2.2.2.2.1).1 j hj).1
  have g1' : H[ρ (1200 + j)]? = some cellV := by
    rw [h3.2.1 _ (Array.getElem?_eq_some_iff.mp g1).1 g4]
    exact g1
  obtain ⟨kA, comp, k1, k2, k3, -⟩ := (hE.1.1.2 4 (cA 5, .object "java/lang/String") rfl).2
  obtain ⟨kE, hkE, -⟩ := Vm.findClass_spec k3
  obtain ⟨kC, hkC, -⟩ := Vm.findClass_spec g3
  have hlt : i.toNatClampNeg < N := Nat.not_le.mp fun q => hin (Or.inr q)
  have h0 : ¬ i < 0 := fun q => hin (Or.inl q)
  refine W.aast hx hb (h2 a _ he) (fun q h => by cases h) (fun h => by cases h) k1 k2 rfl hkE ⟨h0, by show _ < (arrV _ _ _).slots.size; rw [arrV_size]; exact hlt⟩ g1' (fun q h => by rw [h] at g2; cases g2) hkC (vb_asgS _ _ k3 g3) rfl rfl hd fun H1 ee z oq => ?_
  refine h H1 _ ⟨by omega, ?_, h3.put z oq (hD.2 a _ he)⟩
  rw [← hset]
  refine h2.set hD he ?_ oq
  show H1[ρ a]? = some (vp_cell _ _)
  rw [ee]
  rw [vp_cell_q, vp_cell_q, arrV_store]
  congr 2
  funext q
  by_cases hq : q = i.toNatClampNeg
  · subst hq
    simp [updV, va_up, va_rf]
  · simp [updV, va_up, hq]
theorem zk_objI (C : z_kC p s m args c B D ρ cA nL cc own) {a ix : Nat} (hls : ls.size = nL) (hl : Cond.methodLink own ix Lib.objectInit ∈ z_tb) (hin : Cond.instanceMethod Lib.objectInit ∈ z_tb) (hcd : Cond.code Lib.objectInit ⟨#[0xb1]⟩ 1 none ∈ z_tb) (hR : 1 ≤ R.frames ∧ 20 ≤ R.locals) (hd : decode cc pc = .ok (.invokespecial ix, 3)) (hp : pc + 3 = pc') (h : z_G p l e R s m args below meth c Q B D ρ cA ls k F g cells slots pc' []) : z_G p l e R s m args below meth c Q B D ρ cA ls k F g cells slots pc [.ref a] := fun H locs hw => by
  subst hp
  obtain ⟨hx, hb, hml, hown, hts, hE, hρ⟩ := C
  refine W.objInit hx hb hown (hts _ hl) (hts _ hin) (hts _ hcd) rfl (by rw [hml]; exact hls) rfl hd hR.1 ?_ (h H locs hw)
  have := lv_room (m := m) (pc := pc) (ls := ls) (rest := [.ref a]) (st := []) (by decide)
  omega
theorem zk_ret {kk : Nat} {FF : Nat → List Value} {gg : Nat → Option Nat} (C : z_kC p s m args c B D ρ cA nL cc own) (hr : meth.sig.returnType = none) (hlocks : meth.locks = false) (hd : decode cc pc = .ok (.return_, 1)) : z_G p l e R s m args below meth c (MQ below (z_kQ B D ρ cA kk FF gg) args s cells slots (fun q => B ≤ q)) B D ρ cA ls kk FF gg cells slots pc [] := fun H locs hw => by
  obtain ⟨hx, hb, hml, hown, hts, hE, hρ⟩ := C
  obtain ⟨h1, h2, h3⟩ := hw
  exact W.vret hx hb hr (fun t ht hW => ⟨⟨(), rfl, trivial, by rw [ht]; exact h1, by rw [ht]; exact h2⟩, h3.F ht⟩) h3.2.2 hd hlocks
theorem z_kpre {H : Heap} {locs : List Loc} {as : List Value} (hE : z_kE B D cA ρ s) (hw : z_Gd B D ρ cA k F g s H locs) (U : State) (hU : U.heap = H) (hW : s.WarmedH U.vm) : z_kP B D ρ cA as k F g as.toArray U :=
  ⟨rfl, hE.next hW (fun a h1 h2 => by rw [hU]; exact hw.2.2.2.1 a h1 h2), by rw [hU]; exact hw.1, by rw [hU]; exact hw.2.1⟩
theorem zk_call (C : z_kC p s m args c B D ρ cA nL cc own) {b n ix maxL mc ms k2 : Nat} {As : List Value} {y : MethodName} {bytes : ByteArray} {rm : Room} {F2 : Nat → List Value} {g2 : Nat → Option Nat} (hM : Met l y (Cond.code y bytes maxL none :: z_tb) rm (z_kP B D ρ cA (.ref b :: As) k F g) (z_kQ B D ρ cA k2 F2 g2) mc ms (fun q => B ≤ q))
    (hcd : Cond.code y bytes maxL none ∈ z_tb) (hini : Cond.initialized y.cls ∈ z_tb) (hin : Cond.instanceMethod y ∈ z_tb) (hy : y.name = "<init>") (hl : Cond.methodLink own ix y ∈ z_tb ∨ Cond.methodLinkNest own ix y "SlipRoom" ∈ z_nw) (hyd : y.cls ≠ "java/lang/invoke/MethodHandle" ∧ y.cls ≠ "java/lang/invoke/VarHandle" ∧ (parseMethodDescriptor y.desc).map (fun d => d.parameters.length) = some n)
    (hrc : rm.cells = mc) (hrs : rm.slots = ms) (hR : rm.frames + 1 ≤ R.frames ∧ 8 + (maxL + 11) + rm.locals ≤ R.locals) (hn : As.length = n) (hls : ls.size = nL) (hcat : (rest.map fun v => v.category).sum ≤ 8) (hf : cells + mc ≤ R.cells ∧ slots + ms ≤ R.slots) (hd : decode cc pc = .ok (.invokespecial ix, 3)) (hst : As.reverse ++ .ref b :: rest = st) (hp : pc + 3 = pc') (h : z_G p l e R s m args below meth c Q B D ρ cA ls k2 F2 g2 (cells + mc) (slots + ms) pc' rest) : z_G p l e R s m args below meth c Q B D ρ cA ls k F g cells slots pc st := fun H locs hw => by
  subst hp
  obtain ⟨hx, hb, hml, hown, hts, hE, hρ⟩ := C
  have hgood : GoodIn z_tb (Cond.code y bytes maxL none :: z_tb) := z_goodIn (fun w hw => (List.mem_cons.mp hw).elim (fun q => by rw [q]; exact hcd) (fun q => q))
  have hrun : va_Run p l e R s m args below meth c H locs cells slots mc ms (F0 m pc ls st) rest (z_kQ B D ρ cA k2 F2 g2 (Value.ref b :: As).toArray) (fun q => B ≤ q) := by
    rcases hl with hl | hl
    · exact va_runI (As := As) (rest := rest) ⟨hx, hb, hml, hown, hts⟩ hM (cwI n hts hgood rfl hrc hrs (hts _ hini) (hts _ hl) (hts _ hin) hy hyd hR) ⟨z_kP.blind, z_kpre hE hw⟩ rfl hn hls hst.symm (lv_room hcat) hd hf
    · exact va_runIN (As := As) (rest := rest) ⟨hx, hb, hml, hown, hts⟩ hM ⟨va_cnB n hts hgood rfl hrc hrs (hE.1.2.1 _ hl) (hts _ hini) hyd hR, hy, hts _ hin⟩ ⟨z_kP.blind, z_kpre hE hw⟩ rfl hn hls hst.symm (lv_room hcat) hd hf
  refine va_callv hrun hw.2.2 (fun q _ hq => hq) (fun q hq => hq) (fun u t H1 locs1 ht hvm _ hB hsz hk hS => ?_)
  exact h H1 locs1 ⟨by rw [← ht]; exact hB.1, by rw [← ht]; exact hB.2, hS⟩
end ZK
