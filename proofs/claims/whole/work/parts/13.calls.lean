/-! what holds around the program: its tables, and the things that are there from the start and never change -/
def z_RO (B : Nat) (ρ : Nat → Nat) (U : State) (H : Heap) : Prop :=
  vx_Zq Bundle.tN "UNASSIGNED_STACK" Bundle.steD (fun q => B ≤ q) U H ∧ vx_Zq Bundle.tN "SUPPRESSED_SENTINEL" Bundle.listD (fun q => B ≤ q) U H ∧
  (∀ j, j < 17 → va_Z "SlipRoom$Word" (z_wn.getD j "") "LSlipRoom$Word;" (.ref (ρ (1000 + j))) (fun q => B ≤ q) U H) ∧
  va_Z "SlipRoom$Word" "ALL" "[LSlipRoom$Word;" (.ref (ρ 1100)) (fun q => B ≤ q) U H ∧
  va_T (.object "SlipRoom$Word") (ρ 1100) 17 (fun j => .ref (ρ (1000 + j))) (fun q => B ≤ q) U H ∧
  (∀ j, j < 17 → va_OF "SlipRoom$Word" "letters" "Ljava/lang/String;" (.ref (ρ (1200 + j))) (ρ (1000 + j)) (fun q => B ≤ q) U H) ∧
  (∀ j, j < 17 → va_OF "SlipRoom$Word" "value" "I" (.int (z_wv.getD j 0)) (ρ (1000 + j)) (fun q => B ≤ q) U H) ∧
  vk_S 17 (z_tx.map List.length) z_tx (fun i => ρ (1200 + i)) (fun i => ρ (1250 + i)) (fun q => B ≤ q) U H ∧
  va_Z "java/lang/String" "COMPACT_STRINGS" "Z" (.int 1) (fun q => B ≤ q) U H ∧
  (va_Z "jdk/internal/util/Preconditions" "SIOOBE_FORMATTER" "Ljava/util/function/BiFunction;" .null (fun q => B ≤ q) U H ∨ va_Z "jdk/internal/util/Preconditions" "SIOOBE_FORMATTER" "Ljava/util/function/BiFunction;" (.ref (ρ 1299)) (fun q => B ≤ q) U H)
theorem z_RO.next {B : Nat} {ρ : Nat → Nat} {u U : State} {H H1 : Heap} (hvm : u.vm.Alike U.vm) (hq : ∀ a : Nat, a < H.size → ¬ B ≤ a → H1[a]? = H[a]?) (h : z_RO B ρ u H) : z_RO B ρ U H1 := by
  obtain ⟨h1, h2, h3, h4, h5, h6, h7, h8, h9, h10⟩ := h
  exact ⟨(vx_Zq.moved hvm h1).kept hq, (vx_Zq.moved hvm h2).kept hq, fun j hj => (va_Z.moved hvm (h3 j hj)).kept hq, (va_Z.moved hvm h4).kept hq, (va_T.moved hvm h5).kept hq, fun j hj => (va_OF.moved hvm (h6 j hj)).kept hq, fun j hj => (va_OF.moved hvm (h7 j hj)).kept hq, (vk_S.moved hvm h8).kept hq, (va_Z.moved hvm h9).kept hq, h10.elim (fun h => Or.inl ((va_Z.moved hvm h).kept hq)) (fun h => Or.inr ((va_Z.moved hvm h).kept hq))⟩
/-- the text constants by their entries -/
def z_SR (ρ : Nat → Nat) (U : State) : Prop := (∀ q ∈ z_msgs, ∃ sa, vk_R "SlipRoom" q.1 q.2 sa U) ∧ ∀ q ∈ z_strs, vk_R "SlipRoomModel" q.1 q.2.1 (ρ q.2.2) U
theorem z_SR.warm {ρ : Nat → Nat} {s U : State} (hW : s.WarmedH U.vm) (h : z_SR ρ s) : z_SR ρ U := ⟨fun q hq => by obtain ⟨sa, h1⟩ := h.1 q hq; exact ⟨sa, vk_R.warm hW h1⟩, fun q hq => vk_R.warm hW (h.2 q hq)⟩
def z_isD : Cond → Bool
  | .declares _ => true
  | .castable _ _ => true
  | _ => false
noncomputable def z_dw : List Cond := lw_tbl.filter z_isD
def z_Env (B : Nat) (D : va_G) (cA : Nat → ClassId) (ρ : Nat → Nat) (U : State) : Prop :=
  va_K D z_cls (z_tys cA) U ∧ (∀ w ∈ z_nw, va_Nw w U) ∧ z_RO B ρ U U.heap ∧ z_SR ρ U ∧ (∀ i j : Nat, i < 17 → j < 17 → ρ (1000 + i) = ρ (1000 + j) → i = j) ∧ va_Nc "java/lang/IllegalArgumentException" "java/util/NoSuchElementException" U ∧ ∀ w ∈ z_dw, va_Nw w U
theorem z_Env.next {B : Nat} {D : va_G} {cA : Nat → ClassId} {ρ : Nat → Nat} {s U : State} (hW : s.WarmedH U.vm) (hq : ∀ a : Nat, a < s.heap.size → ¬ B ≤ a → U.heap[a]? = s.heap[a]?) (h : z_Env B D cA ρ s) : z_Env B D cA ρ U := by
  obtain ⟨h1, h2, h3, h4, h5, h6, h7⟩ := h
  have hd7 : ∀ w ∈ z_dw, va_Nw w U := fun w hw => by
    have h9 := h7 w hw
    have hn : z_isD w = true := (List.mem_filter.mp hw).2
    cases w with
    | declares x => exact va_Nw.warmD hW h9
    | castable a b => exact va_Nw.warmC hW h9
    | _ => cases hn
  refine ⟨va_K.moved hW.alike h1, fun w hw => ?_, h3.next hW.alike hq, h4.warm hW, h5, va_Nc.moved hW.alike h6, hd7⟩
  have h9 := h2 w hw
  have hn : z_isN w = true := (List.mem_filter.mp hw).2
  cases w with
  | fieldLinkNest a i b n d h => exact va_Nw.warmF hW h9
  | methodLinkNest a i x h => exact va_Nw.warmM hW h9
  | _ => cases hn
theorem z_Env.calls {B : Nat} {D : va_G} {cA : Nat → ClassId} {ρ : Nat → Nat} {U : State} (g : JFrame) (mk : MethodId) (a : Array Value) (h : z_Env B D cA ρ U) : z_Env B D cA ρ (U.calling g mk a) :=
  h.next (U := U.calling g mk a) (State.WarmedH.refl U) (fun _ _ _ => rfl)
/-! contracts -/
def z_mcz (w : Bool) (o : z_Out) : Nat := match o with
  | .inr _ => 1
  | .inl _ => cond w 1 0
def z_rm (d k : Nat) : Room := { frames := d + 10, cells := k, slots := 6 * k, locals := 60 * d + 200 }
def z_Qr (B : Nat) (D : va_G) (ρ : Nat → Nat) (cA : Nat → ClassId) (o : z_Out) (S' : z_St) : Array Value → State → Outcome → State → Prop := fun _ st oc t => (∃ v, o = .inl v ∧ oc = .returned (v.map (z_v ρ))) ∧ va_P D z_cls (z_wl ρ cA S') t.heap ∧ va_F (fun q => B ≤ q) st t
def z_Qx (B : Nat) (D : va_G) (ρ : Nat → Nat) (cA : Nat → ClassId) (o : z_Out) (S' : z_St) : String → State → State → Prop := fun En st t => (∃ e, o = .inr e ∧ En = z_en e) ∧ va_P D z_cls (z_wl ρ cA S') t.heap ∧ va_F (fun q => B ≤ q) st t
def z_Pc (B : Nat) (D : va_G) (ρ : Nat → Nat) (cA : Nat → ClassId) (as : List Value) (S : z_St) : Array Value → State → Prop := va_Pc (as.map (z_v ρ)) (fun U => z_Env B D cA ρ U ∧ va_P D z_cls (z_wl ρ cA S) U.heap)
/-- what a method's answer in the abstract machine means: its contract -/
def z_C (l : Launch) (B : Nat) (D : va_G) (ρ : Nat → Nat) (cA : Nat → ClassId) (d m : Nat) (as : List Value) (S : z_St) (o : z_Out) (S' : z_St) : Prop :=
  vx_Met l (z_m m).1 (z_ws m) (z_rm d (z_mcz (z_isw m) o)) (z_Pc B D ρ cA as S) (z_Qr B D ρ cA o S') (z_Qx B D ρ cA o S') (z_mcz (z_isw m) o) (6 * z_mcz (z_isw m) o) (fun q => B ≤ q)
theorem z_Pc.blind {B : Nat} {D : va_G} {ρ : Nat → Nat} {cA : Nat → ClassId} {as : List Value} {S : z_St} : FrameBlind (z_Pc B D ρ cA as S) := fun a U g mk q => ⟨q.1, q.2.1.calls g mk a, q.2.2⟩
section ZJC
variable {p : Program} {l : Launch} {e : Env} {R : Room} {s : State} {m : MethodId} {args : Array Value} {below : List Frame} {meth : Method} {c : Code} {Q : State → Prop} {B : Nat} {D : va_G} {ρ : Nat → Nat} {cA : Nat → ClassId} {nL : Nat}
variable {cc : ByteArray} {pc z : Nat} {L : z_Lo} {st r : List Value} {S : z_St}
theorem z_Wd.pre {H : Heap} {locs : List Loc} {as : List Value} (hE : z_Env B D cA ρ s) (hw : z_Wd B D ρ cA S s H locs) (U : State) (hU : U.heap = H) (hW : s.WarmedH U.vm) : z_Pc B D ρ cA as S (as.map (z_v ρ)).toArray U :=
  ⟨rfl, hE.next hW (fun a h1 h2 => by rw [hU]; exact hw.2.2.1 a h1 h2), by rw [hU]; exact hw.1⟩
/-- behind a call -/
theorem zj_call {mc : Nat} {o : z_Out} {S' : z_St} {a : Array Value} {rest : List Value}
    (hr : ∀ (ls : Array Slot) (H : Heap) (locs : List Loc), z_lr ρ ls nL L → z_Wd B D ρ cA S s H locs → vx_Run p l e R s m args below meth c H locs z (6 * z) mc (6 * mc) (F0 m pc ls (st.map (z_v ρ))) (rest.map (z_v ρ)) (z_Qr B D ρ cA o S' a) (z_Qx B D ρ cA o S') (fun q => B ≤ q))
    (h1 : ∀ v, o = .inl v → z_J p l e R s m args below meth c Q B D ρ cA nL (pc + 3) (z + mc) L (v.toList ++ rest) S')
    (h2 : ∀ ee, o = .inr ee → ∀ (ls : Array Slot) (H : Heap) (locs : List Loc) (q : Addr) (ce : Cell), z_lr ρ ls nL L → z_Wd B D ρ cA S' s H locs → H[q]? = some ce → ce.vm = .none → s.vm.findClass (z_en ee) = some ce.cls → vx_W p l e R s m args below meth c H locs (z + mc) (6 * (z + mc)) Q (F0 m pc ls (rest.map (z_v ρ))) q) : z_J p l e R s m args below meth c Q B D ρ cA nL pc z L st S := by
  intro ls H locs hl hw T hT X
  rcases hr ls H locs hl hw T hT X with ⟨v, st₀, t, T', Lx, h0, X', hL, e1, e2, ⟨⟨w, ho, hv⟩, hP, hF⟩, stp⟩ | ⟨q, st₀, t, T', Lx, E, ce, h0, X', hL, e1, e2, ⟨⟨ee, ho, hE⟩, hP, hF⟩, hce, hcv, hcl, stp⟩
  · obtain ⟨k1, k2, k3⟩ := vx_keep (A1 := fun q => B ≤ q) h0 e1 hw.2 (fun q _ h => h) (fun q h => h) hL hF
    have hv2 : v = w.map (z_v ρ) := by cases hv; rfl
    subst hv2
    have e3 : (w.map (z_v ρ)).toList ++ rest.map (z_v ρ) = (w.toList ++ rest).map (z_v ρ) := by cases w <;> simp
    rw [← Nat.mul_add] at X'
    obtain ⟨t2, a1, b1⟩ := h1 w ho ls T'.heap (locs ++ Lx) hl ⟨by rw [e1]; exact hP, k3⟩ T' rfl X'
    refine ⟨t2, stp t2 ?_, b1⟩
    rw [e3]; exact a1
  · obtain ⟨k1, k2, k3⟩ := vx_keep (A1 := fun q => B ≤ q) h0 e1 hw.2 (fun q _ h => h) (fun q h => h) hL hF
    rw [← Nat.mul_add] at X'
    subst hE
    obtain ⟨t2, a1, b1⟩ := h2 ee ho ls T'.heap (locs ++ Lx) q ce hl ⟨by rw [e1]; exact hP, k3⟩ (by rw [e1]; exact hce) hcv hcl T' rfl X'
    exact ⟨t2, stp.trans a1, b1⟩
theorem z_rmap {as : List Value} : as.reverse.map (z_v ρ) = (as.map (z_v ρ)).reverse := by simp
theorem z_csum : ∀ (r : List Value), ((r.map (z_v ρ)).map fun v => v.category).sum = z_cs r
  | [] => rfl
  | v :: r => by
    have := z_csum r
    simp only [List.map_cons, List.sum_cons, z_cs, z_vcat] at this ⊢
    rw [this]
end ZJC
/-! a nest mate's methods, returning or throwing -/
section ZN
variable {p : Program} {l : Launch} {e : Env} {R : Room} {s : State} {m : MethodId} {args : Array Value} {below : List Frame} {meth : Method} {c : Code} {H : Heap} {locs : List Loc} {cells slots : Nat}
variable {y : MethodName} {bytes cc : ByteArray} {maxL nL mc ms n index : Nat} {ret : Option FieldType} {ws : List Cond} {rm : Room} {Pc : Array Value → State → Prop} {Qc : Array Value → State → Outcome → State → Prop} {XC : String → State → State → Prop} {free : Addr → Prop} {Ts : List Cond} {own C host : String} {b : Addr} {As rest : List Value} {g : JFrame}
theorem zn_runVN (S : CallFix p m c cc nL s args Ts own) (hM : vx_Met l y ws rm Pc Qc XC mc ms free) (cw : va_CN R s args own index y host bytes maxL ret ws rm mc ms n ∧ (Cond.instanceMethod y).before args s = true ∧ (Cond.selects C y y).before args s = true) (hp : PreV s H C b Pc As)
    (hg : g.method = m) (hn : As.length = n) (hsize : g.locals.size = nL) (hstack : g.stack = As.reverse ++ .ref b :: rest) (hW : 2 * g.monitorRoom + (rest.map fun v => v.category).sum ≤ 8) (hdg : decode cc g.pc = .ok (.invokevirtual index, 3)) (hf : cells + mc ≤ R.cells ∧ slots + ms ≤ R.slots) :
    vx_Run p l e R s m args below meth c H locs cells slots mc ms g rest (Qc (Value.ref b :: As).toArray) XC free := by
  obtain ⟨⟨⟨hrc, hrs, hfr, hlo, hws, hcw⟩, hcode, hini, hy, hlen, hl⟩, hx1, hx2⟩ := cw
  have hK : vx_Back l R p e below s args y 3 8 (PreOf R mc ms Pc) (PostOf Qc mc ms free) (vx_Post XC mc ms free) := vx_back (bytes := bytes) (maxL := maxL) (ret := ret) hM hp.1 hrc hrs hfr hlo hws hcw (fun a' U hW => word_at hW (Or.inl (by first | rfl | simp [Cond.onTables, Cond.keeps, Cond.steady])) hini)
  obtain ⟨hx, hb, hml, ho, -⟩ := S
  obtain ⟨-, ⟨cellB, hcB, hoB, hclB⟩, hPc⟩ := hp
  intro T hT X
  obtain ⟨mk, methM, hnamed, hmethM, hstM, habM⟩ := Cond.instanceMethod_spec hx1
  obtain ⟨methM', cM, hmethM', -, -, -, -, -, -, hsigM⟩ := Cond.code_spec hnamed hcode
  cases hmethM.symm.trans hmethM'
  obtain ⟨c2, r2, m2, q1, q2, q3, q4, kP, hkP, hkPi⟩ := Cond.selects_spec hx2
  cases hclB.symm.trans q1
  cases (State.methodFound?_of_named hnamed hy).symm.trans q2
  cases hnamed.symm.trans q3
  have hselP : selectMethod e.platform s.vm cellB.cls mk = .method mk := by rw [Launch.admits_selectMethod X.admits]; exact q4
  obtain ⟨vm₁, X₁, hstep₁⟩ := X.invokevirtualNest hx ho hl hnamed hmethM hstM hkP hkPi hy (a := b) (cell := cellB) (by rw [hT]; exact hcB)
    (fun z h => by rw [h] at hoB; cases hoB) hselP hmethM habM hkP hkPi (g := g) hg (argsL := As) (rest := rest) (hn.trans (hlen _ hsigM)) hstack (by rw [hb]; exact hdg)
  rcases hK m meth c ⟨T.setVm vm₁, locs, cells, slots⟩ { g with stack := rest } (.invokevirtual index) mk (Value.ref b :: As).toArray X₁ hg (hsize.trans hml.symm) (by rw [hb]; exact hdg) hW (X₁.named hnamed) ⟨hf.1, hf.2, hPc (T.setVm vm₁) hT X₁.warmed⟩ with ⟨v, ⟨U', l2, c2, s2⟩, X', ⟨g', mk', t, L, e1, e2, hq, h1, hL, h2, h3⟩, hsteps⟩ | ⟨q, ⟨U', l2, c2, s2⟩, X', ⟨g', mk', t, L, E, ce, e1, e2, hq, hce, hcv, hcl, h1, hL, h2, h3⟩, hsteps⟩
  · dsimp only [Pt.U, Pt.locs, Pt.cells, Pt.slots] at X' e1 e2 h1 h2 h3 hsteps
    subst h1; subst h2; subst h3
    exact Or.inl ⟨v, (T.setVm vm₁).calling g' mk' (Value.ref b :: As).toArray, t, U', L, hT, X', hL, e1, e2, hq, fun target h => hstep₁ _ fun acts => by rw [doInvoke_state]; exact hsteps.trans h⟩
  · dsimp only [Pt.U, Pt.locs, Pt.cells, Pt.slots] at X' e1 e2 h1 h2 h3 hsteps hcl
    subst h1; subst h2; subst h3
    exact Or.inr ⟨q, (T.setVm vm₁).calling g' mk' (Value.ref b :: As).toArray, t, U', L, E, ce, hT, X', hL, e1, e2, hq, hce, hcv, vx_cls X₁.warmed hcl, hstep₁ _ fun acts => by rw [doInvoke_state]; exact hsteps⟩
theorem zn_runSN (S : CallFix p m c cc nL s args Ts own) (hM : vx_Met l y ws rm Pc Qc XC mc ms free) (cw : va_CN R s args own index y host bytes maxL ret ws rm mc ms n ∧ (Cond.static y).before args s = true) (hp : PreS s H Pc As)
    (hg : g.method = m) (hn : As.length = n) (hsize : g.locals.size = nL) (hstack : g.stack = As.reverse ++ rest) (hW : 2 * g.monitorRoom + (rest.map fun v => v.category).sum ≤ 8) (hdg : decode cc g.pc = .ok (.invokestatic index, 3)) (hf : cells + mc ≤ R.cells ∧ slots + ms ≤ R.slots) :
    vx_Run p l e R s m args below meth c H locs cells slots mc ms g rest (Qc As.toArray) XC free := by
  obtain ⟨⟨⟨hrc, hrs, hfr, hlo, hws, hcw⟩, hcode, hini, hy, hlen, hl⟩, hx1⟩ := cw
  have hK : vx_Back l R p e below s args y 3 8 (PreOf R mc ms Pc) (PostOf Qc mc ms free) (vx_Post XC mc ms free) := vx_back (bytes := bytes) (maxL := maxL) (ret := ret) hM hp.1 hrc hrs hfr hlo hws hcw (fun a' U hW => word_at hW (Or.inl (by first | rfl | simp [Cond.onTables, Cond.keeps, Cond.steady])) hini)
  obtain ⟨hx, hb, hml, ho, -⟩ := S
  intro T hT X
  obtain ⟨mk, hnamed⟩ := Cond.code_named hcode
  obtain ⟨methM, cM, hmethM, -, -, -, -, -, -, hsigM⟩ := Cond.code_spec hnamed hcode
  have hstatic : methM.isStatic = true := Cond.static_spec hnamed hmethM hx1
  obtain ⟨kP, hkP, -⟩ := className_of_methodNamed hnamed
  have hinitP : kP.init = .initialized := Cond.initialized_spec (findClass_of_methodNamed hnamed) hkP hini
  obtain ⟨vm₁, X₁, hstep₁⟩ := X.invokestaticNest hx ho hl hnamed hmethM hstatic hkP hinitP hy (g := g) hg (argsL := As) (rest := rest) (hn.trans (hlen _ hsigM)) hstack (by rw [hb]; exact hdg)
  rcases hK m meth c ⟨T.setVm vm₁, locs, cells, slots⟩ { g with stack := rest } (.invokestatic index) mk As.toArray X₁ hg (hsize.trans hml.symm) (by rw [hb]; exact hdg) hW (X₁.named hnamed) ⟨hf.1, hf.2, hp.2 (T.setVm vm₁) hT X₁.warmed⟩ with ⟨v, ⟨U', l2, c2, s2⟩, X', ⟨g', mk', t, L, e1, e2, hq, h1, hL, h2, h3⟩, hsteps⟩ | ⟨q, ⟨U', l2, c2, s2⟩, X', ⟨g', mk', t, L, E, ce, e1, e2, hq, hce, hcv, hcl, h1, hL, h2, h3⟩, hsteps⟩
  · dsimp only [Pt.U, Pt.locs, Pt.cells, Pt.slots] at X' e1 e2 h1 h2 h3 hsteps
    subst h1; subst h2; subst h3
    exact Or.inl ⟨v, (T.setVm vm₁).calling g' mk' As.toArray, t, U', L, hT, X', hL, e1, e2, hq, fun target h => hstep₁ _ fun acts => by rw [doInvoke_state]; exact hsteps.trans h⟩
  · dsimp only [Pt.U, Pt.locs, Pt.cells, Pt.slots] at X' e1 e2 h1 h2 h3 hsteps hcl
    subst h1; subst h2; subst h3
    exact Or.inr ⟨q, (T.setVm vm₁).calling g' mk' As.toArray, t, U', L, E, ce, hT, X', hL, e1, e2, hq, hce, hcv, vx_cls X₁.warmed hcl, hstep₁ _ fun acts => by rw [doInvoke_state]; exact hsteps⟩
end ZN
