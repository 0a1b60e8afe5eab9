/-! the program's throws, by their numbers -/
def z_xi (ee : Nat) : Nat × Nat × ByteArray := match ee with
  | 0 => (153, 13, prog_31_method_4_code)
  | _ => (91, 7, Bundle.six)
def z_xo (ee : Nat) : List Cond := z_oa "SlipRoom" (z_xi ee).1 (z_en ee) (z_xi ee).2.1 (z_xi ee).2.2 "java/lang/RuntimeException" ["java/lang/Exception"]
noncomputable def z_isT (w : Cond) : Bool := decide (w ∈ lw_tbl) && (goodWord w || z_isD w) && vx_ot w
theorem z_xt0 : (Cond.initialized (z_en 0) :: (z_xo 0).filter vx_no).all z_isT = true := by decide +kernel
theorem z_xt1 : (Cond.initialized (z_en 1) :: (z_xo 1).filter vx_no).all z_isT = true := by decide +kernel
theorem z_xf : Bundle.fit (z_en 0) = true ∧ Bundle.fit (z_en 1) = true ∧ Bundle.fit "java/lang/RuntimeException" = true ∧ Bundle.fit "java/lang/Exception" = true := by decide +kernel
theorem z_xd (ee : Nat) : decode (z_xi ee).2.2 0 = .ok (.aload_n 0, 1) ∧ decode (z_xi ee).2.2 1 = .ok (.aload_n 1, 1) ∧ decode (z_xi ee).2.2 2 = .ok (.invokespecial (z_xi ee).2.1, 3) ∧ decode (z_xi ee).2.2 5 = .ok (.return_, 1) := by
  cases ee with
  | zero => exact ⟨by decide +kernel, by decide +kernel, by decide +kernel, by decide +kernel⟩
  | succ n =>
    rw [show z_xi (n + 1) = z_xi 1 from rfl]
    exact ⟨by decide +kernel, by decide +kernel, by decide +kernel, by decide +kernel⟩
theorem z_isT_ok {w : Cond} {args : Array Value} {s : State} (hts : ∀ w ∈ z_tb, w.before args s = true) (hdw : ∀ w ∈ z_dw, va_Nw w s) (h : z_isT w = true) : w.before args s = true ∧ vx_ot w = true := by
  simp only [z_isT, Bool.and_eq_true, Bool.or_eq_true, decide_eq_true_eq] at h
  refine ⟨?_, h.2⟩
  rcases h.1.2 with h1 | h1
  · exact hts _ (List.mem_filter.mpr ⟨h.1.1, h1⟩)
  · have h2 := hdw w (List.mem_filter.mpr ⟨h.1.1, h1⟩)
    cases w with
    | declares x => exact va_Nw.use rfl h2
    | castable a b => exact va_Nw.use rfl h2
    | _ => cases h1
theorem z_xw {ee : Nat} (he : ee < 2) {args : Array Value} {s : State} (hts : ∀ w ∈ z_tb, w.before args s = true) (hdw : ∀ w ∈ z_dw, va_Nw w s) : ∀ w ∈ Cond.initialized (z_en ee) :: (z_xo ee).filter vx_no, w.before args s = true ∧ vx_ot w = true := by
  have h2 : ee = 0 ∨ ee = 1 := by omega
  rcases h2 with rfl | rfl
  · exact fun w hw => z_isT_ok hts hdw (List.all_eq_true.mp z_xt0 w hw)
  · exact fun w hw => z_isT_ok hts hdw (List.all_eq_true.mp z_xt1 w hw)
theorem z_fit {ee : Nat} (he : ee < 2) : Bundle.fit (z_en ee) = true := by
  have h2 : ee = 0 ∨ ee = 1 := by omega
  rcases h2 with rfl | rfl
  · exact z_xf.1
  · exact z_xf.2.1
section ZX
variable {p : Program} {l : Launch} {e : Env} {R : Room} {s : State} {m : MethodId} {args : Array Value} {below : List Frame} {meth : Method} {c : Code} {H : Heap} {locs : List Loc} {cells slots : Nat} {free : Addr → Prop} {ls : Array Slot} {rest : List Value}
variable {Qc : Array Value → State → Outcome → State → Prop} {XC : String → State → State → Prop}
theorem z_thr {cc : ByteArray} {pc : Nat} (hexec : p.tables.exec = Jvm.exec) (hb : c.code = cc) (hl : l.stackTraces = false) {text : String} {ee ik is k mc ms sa : Nat} {A : Nat → Prop} (hee : ee < 2)
    (hown : s.vm.findClass "SlipRoom" = some m.cls) (hts : ∀ w ∈ z_tb, w.before args s = true) (hdw : ∀ w ∈ z_dw, va_Nw w s)
    (hk : Cond.classLink "SlipRoom" ik (z_en ee) ∈ z_tb) (hstr : vk_R "SlipRoom" is text sa s)
    (hU : vx_Zq Bundle.tN "UNASSIGNED_STACK" Bundle.steD A s s.heap) (hN : vx_Zq Bundle.tN "SUPPRESSED_SENTINEL" Bundle.listD A s s.heap) (hS : va_S A s.heap H locs) (hsize : ls.size = c.maxLocals)
    (d0 : decode cc pc = .ok (.new ik, 3)) (d3 : decode cc (pc + 3) = .ok (.dup, 1)) (d4 : (decode cc (pc + 4) = .ok (.ldc is, 2) ∧ k = 6) ∨ (decode cc (pc + 4) = .ok (.ldc_w is, 3) ∧ k = 7)) (d6 : decode cc (pc + k) = .ok (.invokespecial (z_xi ee).1, 3)) (d9 : decode cc (pc + k + 3) = .ok (.athrow, 1))
    (hout : ∀ x ∈ c.exceptionTable.toList, False)
    (hRframes : 10 ≤ R.frames) (hRlocals : (rest.map fun v => v.category).sum + 100 ≤ R.locals) (hRcells : cells + 1 ≤ R.cells) (hRslots : slots + 6 ≤ R.slots) (hlocks : meth.locks = false)
    (hx : ∀ t : State, s.vm.Alike t.vm → H.size ≤ t.heap.size → (∀ q : Nat, q < H.size → t.heap[q]? = H[q]?) → XC (z_en ee) s t)
    (hf : ∀ z ∈ locs, free z.base) (hc : cells + 1 ≤ mc) (hs : slots + 6 ≤ ms) :
    W p l e R s m args below meth c H locs cells slots (vx_MQ below Qc XC args s mc ms free) (F0 m pc ls rest) := by
  intro T hT X
  have htr : e.platform.stackTraces = false := (show e.platform.stackTraces = l.stackTraces by rw [X.admits.platform]).trans hl
  have Y := vx_rebase X (R' := { frames := R.frames, locals := R.locals, cells := 1, slots := 6 }) (Nat.le_refl _) (Nat.le_refl _) hRcells hRslots
  obtain ⟨s', hA⟩ : ∃ z, z = (T.setVm s.vm).setFrames (.invoking m args :: below) := ⟨_, rfl⟩
  rw [← hA] at Y
  have hvm : s'.vm = s.vm := by rw [hA]; rfl
  have hhp : s'.heap = H := by rw [hA]; exact hT
  have hW0 : s.WarmedH s'.vm := by rw [hvm]; exact State.WarmedH.refl s
  have hxw := z_xw hee hts hdw
  have hat' : ∀ w ∈ (z_xo ee).filter vx_no, w.before args s' = true := fun w hw => vx_ot_at hW0 hvm.symm (hxw w (List.mem_cons_of_mem _ hw)).2 (hxw w (List.mem_cons_of_mem _ hw)).1
  have hk' : (Cond.classLink "SlipRoom" ik (z_en ee)).before args s' = true := word_at hW0 (good_of_word (List.mem_filter.mp hk).2) (hts _ hk)
  have hini' : (Cond.initialized (z_en ee)).before args s' = true := vx_ot_at hW0 hvm.symm (hxw _ List.mem_cons_self).2 (hxw _ List.mem_cons_self).1
  have hU' : vx_Zq Bundle.tN "UNASSIGNED_STACK" Bundle.steD A s' s'.heap := by rw [hhp]; exact vx_Zq.moved hW0.alike (hU.kept hS.2.1)
  have hN' : vx_Zq Bundle.tN "SUPPRESSED_SENTINEL" Bundle.listD A s' s'.heap := by rw [hhp]; exact vx_Zq.moved hW0.alike (hN.kept hS.2.1)
  have h : ∀ w ∈ z_xo ee, w.before args s' = true := vx_own hat' (vx_isRefq hU'.1) (vx_isRefq hN'.1) hU'.2.word hN'.2.word
  have hown' : s'.vm.findClass "SlipRoom" = some m.cls := by rw [hvm]; exact hown
  have hins : (Cond.instantiable (z_en ee) 6).before args s' = true := h _ (by simp [z_xo, z_oa])
  obtain ⟨vm₁, cX, kX, hfX, hkX, -, -, X₁, st1⟩ := Y.newCold hexec (own := "SlipRoom") (C := z_en ee) (index := ik) (n := 6) hown' hk' hins hini'
    (g := F0 m pc ls rest) rfl (by rw [hb]; exact d0) (Nat.le_refl _) (Nat.le_refl _)
  generalize hT1 : (T.setVm vm₁).pushCell { cls := cX, slots := kX.instanceTypes.map defaultValue, vm := .none } = T1 at X₁ st1
  have hcat : (Value.ref T.heap.size).category = 1 := rfl
  have hcellA : T1.heap[T.heap.size]? = some (freshCell cX kX) := by rw [← hT1]; exact State.heap_pushCell_size _ _
  have d3' : decode c.code (pc + 3) = .ok (.dup, 1) := by rw [hb]; exact d3
  have hstr' : vk_R "SlipRoom" is text sa s' := vk_R.warm hW0 hstr
  obtain ⟨x0, x1, x2, x5⟩ := z_xd ee
  obtain ⟨U, hsteps, hrun, hend, hW, hsame, ce, hce, hOc, hOv⟩ := z_ctor X₁ hexec htr (own := "SlipRoom") (cls := z_en ee) (Y0 := "java/lang/RuntimeException") (names := ["java/lang/Exception"]) (ic := (z_xi ee).1) x0 x1 x2 x5 hown' (z_fit hee) z_xf.2.2.1 (fun n hn => by rw [List.mem_singleton.mp hn]; exact z_xf.2.2.2) h (fun x hx => nomatch hx) hfX hkX hcellA (by rw [hhp, hT]; exact Nat.le_refl _) (msg := .ref sa) rfl
    (g := { method := m, pc := pc + k, locals := ls, stack := .ref sa :: .ref T.heap.size :: .ref T.heap.size :: rest, locked := none }) rfl hsize rfl rfl (rest := rest) rfl
    (by rw [hb]; exact d6) (by rw [hb]; exact d9) (fun x hx => (hout x hx).elim) (by show 1 + 4 < R.frames; omega) (by show 2 * _ + _ + (13 * (1 + 2) + 42) ≤ R.locals; simp only [List.map_cons, List.sum_cons, hcat]; first | omega | (simp [JFrame.monitorRoom]; omega)) hlocks
  obtain ⟨f1, f2⟩ := vx_frame hsame
  rw [hhp] at f1 f2
  have hWs : s.WarmedH U.vm := State.WarmedH.trans hW0 hW
  have hcl : s.vm.findClass (z_en ee) = some ce.cls := by rw [← hvm]; exact hOc
  have hall : s.sameButNew ({ U with vm := s.vm } : State) locs mc ms := by
    subst hA
    obtain ⟨e1, e2⟩ := hsame
    rw [State.setFrames_setFrames] at e1
    have h2 : (T.setVm s.vm).sameButNew ({ U with vm := s.vm } : State) [] (0 + 1) (0 + 6) := ⟨e1, e2⟩
    have h3 := X.same.trans h2
    rw [List.append_nil] at h3
    exact h3.mono hc hs
  refine ⟨U, ?_, .threw T.heap.size, hrun, hend, Or.inr ⟨T.heap.size, rfl, z_en ee, ce, locs, hx U hWs.alike f1 (fun q hq => f2 q hq (fun z hz => nomatch hz)), hce, hOv, hcl, hWs, hall, hf⟩⟩
  refine st1 _ ?_
  show Steps p.tables e below (T1.setTop { method := m, pc := pc + 3, locals := ls, stack := .ref T.heap.size :: rest, locked := none }) _
  jvm_step X₁.here [X₁.here.top, hexec, d3', Value.category]
  rcases d4 with ⟨d4, rfl⟩ | ⟨d4, rfl⟩
  · exact X₁.ldcString hexec (own := "SlipRoom") (text := text) (index := is) (a := sa) hown' hstr'.1 hstr'.2
      (g := { method := m, pc := pc + 4, locals := ls, stack := .ref T.heap.size :: .ref T.heap.size :: rest, locked := none }) rfl (by rw [hb]; exact d4) _ hsteps
  · exact X₁.ldcStringW hexec (own := "SlipRoom") (text := text) (index := is) (a := sa) hown' hstr'.1 hstr'.2
      (g := { method := m, pc := pc + 4, locals := ls, stack := .ref T.heap.size :: .ref T.heap.size :: rest, locked := none }) rfl (by rw [hb]; exact d4) _ hsteps
end ZX
