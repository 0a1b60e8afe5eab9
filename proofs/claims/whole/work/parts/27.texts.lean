/-! the texts' own methods: length and the sign at a place -/
def z_cj (y : MethodName) (bytes : ByteArray) (maxL : Nat) (ret : Option FieldType) : List Cond := Cond.code y bytes maxL ret :: z_tb
def z_CJ (l : Launch) (B : Nat) (D : va_G) (ρ : Nat → Nat) (cA : Nat → ClassId) (d : Nat) (y : MethodName) (bytes : ByteArray) (maxL : Nat) (ret : Option FieldType) (as : List Value) (S : z_St) (o : z_Out) : Prop :=
  vx_Met l y (z_cj y bytes maxL ret) (z_rm d 0) (z_Pc B D ρ cA as S) (z_Qr B D ρ cA o S) (z_Qx B D ρ cA o S) 0 0 (fun q => B ≤ q)
section ZY
variable {p : Program} {l : Launch} {e : Env} {R : Room} {s : State} {m : MethodId} {args : Array Value} {below : List Frame} {meth : Method} {c : Code} {Q : State → Prop} {B : Nat} {D : va_G} {ρ : Nat → Nat} {cA : Nat → ClassId} {nL : Nat}
variable {cc : ByteArray} {pc z : Nat} {L : z_Lo} {st r : List Value} {S : z_St} {own : String} {dd : Nat}
variable {y : MethodName} {bytes : ByteArray} {maxL : Nat} {ret : Option FieldType} {v : Option Value} {as : List Value}
theorem zk_S (hctx : z_Ctx p l R s m args c B D ρ cA nL cc own dd) (hC : z_CJ l B D ρ cA dd y bytes maxL ret as S (.inl v)) {i : Nat} (hcode : Cond.code y bytes maxL ret ∈ z_tb) (hin : Cond.initialized y.cls ∈ z_tb) (hl : Cond.methodLink own i y ∈ z_tb) (hs : Cond.static y ∈ z_tb)
    (hy : y.cls ≠ "java/lang/invoke/MethodHandle" ∧ y.cls ≠ "java/lang/invoke/VarHandle") (hpar : (parseMethodDescriptor y.desc).map (fun d => d.parameters.length) = some as.length) (hL30 : maxL ≤ 30) (hr8 : z_cs r ≤ 8) (hd : decode cc pc = .ok (.invokestatic i, 3)) (hcell : z ≤ R.cells ∧ 6 * z ≤ R.slots)
    (hgo : z_J p l e R s m args below meth c Q B D ρ cA nL (pc + 3) z L (v.toList ++ r) S) : z_J p l e R s m args below meth c Q B D ρ cA nL pc z L (as.reverse ++ r) S := by
  obtain ⟨hx, hb, hml, hown, hts, hE, hAp, hRf, hRl⟩ := hctx
  have hws : ∀ w ∈ z_cj y bytes maxL ret, w ∈ z_tb := fun w hw => (List.mem_cons.mp hw).elim (fun q => by rw [q]; exact hcode) id
  refine zj_call (mc := 0) (o := .inl v) (S' := S) (a := (as.map (z_v ρ)).toArray) (rest := r) (fun ls H locs hls hw => ?_) (fun w hw => ?_) (fun ee he => by cases he)
  · exact vx_runS (As := as.map (z_v ρ)) (Ts := z_tb) (own := own) (index := i) (y := y) (bytes := bytes) (maxL := maxL) (ret := ret) (ws := z_cj y bytes maxL ret) ⟨hx, hb, hml, hown, hts⟩ hC ⟨callB_of as.length hts (z_goodIn hws) rfl rfl rfl (hts _ hin) (hts _ hl) ⟨hy.1, hy.2, hpar⟩ ⟨by simp only [z_rm]; omega, by simp only [z_rm]; omega⟩, hts _ hs⟩ ⟨z_Pc.blind, hw.pre hE⟩ rfl (by simp) hls.1 (by simp) (z_hWs hr8) hd hcell
  · cases hw
    exact hgo
theorem zk_V (hctx : z_Ctx p l R s m args c B D ρ cA nL cc own dd) {a i : Nat} (hC : z_CJ l B D ρ cA dd y bytes maxL ret (.ref a :: as) S (.inl v)) (hcode : Cond.code y bytes maxL ret ∈ z_tb) (hin : Cond.initialized y.cls ∈ z_tb) (hl : Cond.methodLink own i y ∈ z_tb) (hs : Cond.instanceMethod y ∈ z_tb) (hse : Cond.selects y.cls y y ∈ z_tb) (hcl : y.cls = "java/lang/String")
    (hpar : (parseMethodDescriptor y.desc).map (fun d => d.parameters.length) = some as.length) (hL30 : maxL ≤ 30) {j : Nat} (hj : j < 17) (ha : a = 1200 + j) (hr8 : z_cs r ≤ 8) (hd : decode cc pc = .ok (.invokevirtual i, 3)) (hcell : z ≤ R.cells ∧ 6 * z ≤ R.slots)
    (hgo : z_J p l e R s m args below meth c Q B D ρ cA nL (pc + 3) z L (v.toList ++ r) S) : z_J p l e R s m args below meth c Q B D ρ cA nL pc z L ((.ref a :: as).reverse ++ r) S := by
  obtain ⟨hx, hb, hml, hown, hts, hE, hAp, hRf, hRl⟩ := hctx
  subst ha
  have hws : ∀ w ∈ wsV own i y.cls y (z_cj y bytes maxL ret), w ∈ z_tb := by
    intro w hw
    unfold wsV at hw
    rcases List.mem_append.mp hw with h | h
    · simp only [List.mem_cons, List.not_mem_nil, or_false] at h
      rcases h with rfl | rfl | rfl | rfl
      · exact hl
      · exact hs
      · exact hse
      · exact hin
    · exact (List.mem_cons.mp h).elim (fun q => by rw [q]; exact hcode) id
  refine zj_call (mc := 0) (o := .inl v) (S' := S) (a := ((.ref (1200 + j) :: as).map (z_v ρ)).toArray) (rest := r) (fun ls H locs hls hw => ?_) (fun w hw => ?_) (fun ee he => by cases he)
  · exact vx_runV (As := as.map (z_v ρ)) (b := ρ (1200 + j)) (C := y.cls) (Ts := z_tb) (own := own) (index := i) (y := y) (bytes := bytes) (maxL := maxL) (ret := ret) (ws := z_cj y bytes maxL ret) ⟨hx, hb, hml, hown, hts⟩ hC (cwV as.length hts (z_goodIn hws) rfl rfl rfl ⟨rfl, by rw [hcl]; decide, by rw [hcl]; decide, hpar⟩ ⟨by simp only [z_rm]; omega, by simp only [z_rm]; omega⟩) ⟨z_Pc.blind, by rw [hcl]; exact vk_recv hE.2.2.1.2.2.2.2.2.2.2.1 hj hw.2, hw.pre hE⟩ rfl (by simp) hls.1 (by simp [z_v]) (z_hWs hr8) hd hcell
  · cases hw
    exact hgo
/-- fields of texts; statics -/
theorem zj_getO (hx : p.tables.exec = Jvm.exec) (hb : c.code = cc) {n d : String} {i a : Nat} {v : Value} (hF : va_OF "java/lang/String" n d (z_v ρ v) (ρ a) (fun q => B ≤ q) s s.heap) (hown : s.vm.findClass own = some m.cls) (hlink : (Cond.fieldLink own i "java/lang/String" n d).before args s = true) (hd : decode cc pc = .ok (.getfield i, 3)) (h : z_J p l e R s m args below meth c Q B D ρ cA nL (pc + 3) z L (v :: r) S) : z_J p l e R s m args below meth c Q B D ρ cA nL pc z L (.ref a :: r) S := fun ls H locs hl hw =>
  vk_getf hx hb hF hw.2 hown hlink (fun _ h9 => h9) hd (h ls H locs hl hw)
theorem zj_getS (hx : p.tables.exec = Jvm.exec) (hb : c.code = cc) {C n d : String} {i : Nat} {v : Value} (hZ : va_Z C n d (z_v ρ v) (fun q => B ≤ q) s s.heap) (hown : s.vm.findClass own = some m.cls) (hlink : (Cond.fieldLink own i C n d).before args s = true) (hd : decode cc pc = .ok (.getstatic i, 3)) (h : z_J p l e R s m args below meth c Q B D ρ cA nL (pc + 3) z L (v :: st) S) : z_J p l e R s m args below meth c Q B D ρ cA nL pc z L st S := fun ls H locs hl hw =>
  va_gets hx hb hZ hw.2 hown hlink (fun _ h9 => h9) hd (h ls H locs hl hw)
theorem zj_pop (hx : p.tables.exec = Jvm.exec) (hb : c.code = cc) {v : Value} (hc : v.category = 1) (hd : decode cc pc = .ok (.pop, 1)) (h : z_J p l e R s m args below meth c Q B D ρ cA nL (pc + 1) z L r S) : z_J p l e R s m args below meth c Q B D ρ cA nL pc z L (v :: r) S := fun ls H locs hl hw => lv_pop hx hb hd (by rw [z_vcat]; exact hc) (h ls H locs hl hw)
theorem zj_i2c (hx : p.tables.exec = Jvm.exec) (hb : c.code = cc) {x w : Int32} (hv : (x.toUInt32 % 65536).toInt32 = w) (hd : decode cc pc = .ok (.i2c, 1)) (h : z_J p l e R s m args below meth c Q B D ρ cA nL (pc + 1) z L (.int w :: r) S) : z_J p l e R s m args below meth c Q B D ρ cA nL pc z L (.int x :: r) S := fun ls H locs hl hw => lv_i2c hx hb hd hv (h ls H locs hl hw)
/-- the law of a body -/
theorem z_jbody {d : Nat} (hAp : z_Ap B ρ) (hpl : plainName y.cls = true) (hfit : (z_sl as).length ≤ maxL)
    (body : ∀ (p : Program) (e : Env) (s : State) (m : MethodId) (args : Array Value) (below : List Frame) (meth : Method) (c : Code), z_Ctx p l (z_rm (d + 1) 0) s m args c B D ρ cA maxL bytes y.cls d → meth.sig.returnType = ret → meth.locks = false → z_J p l e (z_rm (d + 1) 0) s m args below meth c (z_MQ B D ρ cA (.inl v) S below args s 0) B D ρ cA maxL 0 0 (z_in maxL as) [] S) : z_CJ l B D ρ cA (d + 1) y bytes maxL ret as S (.inl v) := by
  refine vx_ofW hpl rfl (fun p e s m0 args below meth c s₁ Bd hml htab hP => ?_)
  have hts0 : ∀ w ∈ z_cj y bytes maxL ret, w.before args s = true := atoms_spec (ws := z_cj y bytes maxL ret) Bd.pre
  have hctx : z_Ctx p l (z_rm (d + 1) 0) s m0 args c B D ρ cA maxL bytes y.cls d := ⟨Bd.exec, Bd.bytes, hml, findClass_of_methodNamed Bd.named, fun w hw => hts0 w (List.mem_cons_of_mem _ hw), hP.2.1, hAp, by simp only [z_rm]; omega, by simp only [z_rm]; omega⟩
  have hJ := body p e s m0 args below meth c hctx Bd.returns Bd.notSynchronized
  have hargs : args = (as.map (z_v ρ)).toArray := hP.1
  subst hargs
  rw [lg_entry_eq]
  have hl := lv_entry (as.map (z_v ρ)) (n := maxL) (by rw [z_sl_len]; exact hfit)
  exact hJ _ s.heap [] (z_in_lr hl) ⟨hP.2.2, va_S.rf⟩
/-- an end with a number of any kind -/
theorem z_endN (hx : p.tables.exec = Jvm.exec) (hb : c.code = cc) {ty : FieldType} (hr : meth.sig.returnType = some ty) (hlocks : meth.locks = false) {x : Int32} (hn : narrow ty (.int x) = .int x) (hd : decode cc pc = .ok (.ireturn, 1)) {mc : Nat} : z_J p l e R s m args below meth c (z_MQ B D ρ cA (.inl (some (.int x))) S below args s mc) B D ρ cA nL pc 0 L [.int x] S := fun ls H locs hl hw =>
  vx_ret (z_wide (Nat.zero_le _) (Nat.zero_le _) (W.zret hx hb hr hn hw.q hw.2.2.2 hd hlocks))
end ZY
