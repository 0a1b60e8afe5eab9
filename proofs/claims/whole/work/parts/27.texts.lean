/-! the texts' own methods: length and the sign at a place -/
noncomputable def z_cj (y : MethodName) (bytes : ByteArray) (maxL : Nat) (ret : Option FieldType) : List Cond := Cond.code y bytes maxL ret :: z_tb
def z_rj (k : Nat) : Room := { frames := k, cells := 0, slots := 0, locals := 50 * k }
def z_CJ (l : Launch) (B : Nat) (D : va_G) (ρ : Nat → Nat) (cA : Nat → ClassId) (d : Nat) (y : MethodName) (bytes : ByteArray) (maxL : Nat) (ret : Option FieldType) (as : List Value) (S : z_St) (o : z_Out) : Prop :=
  vx_Met l y (z_cj y bytes maxL ret) (z_rj d) (z_Pc B D ρ cA as S) (z_Qr B D ρ cA o S) (z_Qx B D ρ cA o S) 0 0 (fun q => B ≤ q)
/-- around a body of theirs -/
def z_Cx (p : Program) (R : Room) (s : State) (m : MethodId) (args : Array Value) (c : Code) (B : Nat) (D : va_G) (ρ : Nat → Nat) (cA : Nat → ClassId) (nL : Nat) (cc : ByteArray) (own : String) (k : Nat) : Prop :=
  p.tables.exec = Jvm.exec ∧ c.code = cc ∧ c.maxLocals = nL ∧ s.vm.findClass own = some m.cls ∧ (∀ w ∈ z_tb, w.before args s = true) ∧ z_Env B D cA ρ s ∧ k + 1 ≤ R.frames ∧ 50 * k + 50 ≤ R.locals
section ZY
variable {p : Program} {l : Launch} {e : Env} {R : Room} {s : State} {m : MethodId} {args : Array Value} {below : List Frame} {meth : Method} {c : Code} {Q : State → Prop} {B : Nat} {D : va_G} {ρ : Nat → Nat} {cA : Nat → ClassId} {nL : Nat}
variable {cc : ByteArray} {pc z : Nat} {L : z_Lo} {st r : List Value} {S : z_St} {own : String} {dd : Nat}
variable {y : MethodName} {bytes : ByteArray} {maxL : Nat} {ret : Option FieldType} {v : Option Value} {as : List Value}
theorem zk_S (hctx : z_Cx p R s m args c B D ρ cA nL cc own dd) (hC : z_CJ l B D ρ cA dd y bytes maxL ret as S (.inl v)) {i : Nat} (hcode : Cond.code y bytes maxL ret ∈ z_tb) (hin : Cond.initialized y.cls ∈ z_tb) (hl : Cond.methodLink own i y ∈ z_tb) (hs : Cond.static y ∈ z_tb)
    (hy : y.cls ≠ "java/lang/invoke/MethodHandle" ∧ y.cls ≠ "java/lang/invoke/VarHandle") (hpar : (parseMethodDescriptor y.desc).map (fun d => d.parameters.length) = some as.length) (hL30 : maxL ≤ 30) (hr8 : z_cs r ≤ 8) (hd : decode cc pc = .ok (.invokestatic i, 3)) (hcell : z ≤ R.cells ∧ 6 * z ≤ R.slots)
    (hgo : z_J p l e R s m args below meth c Q B D ρ cA nL (pc + 3) z L (v.toList ++ r) S) : z_J p l e R s m args below meth c Q B D ρ cA nL pc z L (as.reverse ++ r) S := by
  obtain ⟨hx, hb, hml, hown, hts, hE, hRf, hRl⟩ := hctx
  have hws : ∀ w ∈ z_cj y bytes maxL ret, w ∈ z_tb := fun w hw => (List.mem_cons.mp hw).elim (fun q => by rw [q]; exact hcode) id
  refine zj_call (mc := 0) (o := .inl v) (S' := S) (a := (as.map (z_v ρ)).toArray) (rest := r) (fun ls H locs hls hw => ?_) (fun w hw => ?_) (fun ee he => by cases he)
  · exact vx_runS (As := as.map (z_v ρ)) (Ts := z_tb) (own := own) (index := i) (y := y) (bytes := bytes) (maxL := maxL) (ret := ret) (ws := z_cj y bytes maxL ret) ⟨hx, hb, hml, hown, hts⟩ hC ⟨callB_of as.length hts (z_goodIn hws) rfl rfl rfl (hts _ hin) (hts _ hl) ⟨hy.1, hy.2, hpar⟩ ⟨by simp only [z_rj]; omega, by simp only [z_rj]; omega⟩, hts _ hs⟩ ⟨z_Pc.blind, hw.pre hE⟩ rfl (by simp) hls.1 (by simp) (z_hWs hr8) hd hcell
  · cases hw
    exact hgo
theorem zk_V (hctx : z_Cx p R s m args c B D ρ cA nL cc own dd) {a i : Nat} (hC : z_CJ l B D ρ cA dd y bytes maxL ret (.ref a :: as) S (.inl v)) (hcode : Cond.code y bytes maxL ret ∈ z_tb) (hin : Cond.initialized y.cls ∈ z_tb) (hl : Cond.methodLink own i y ∈ z_tb) (hs : Cond.instanceMethod y ∈ z_tb) (hse : Cond.selects y.cls y y ∈ z_tb) (hcl : y.cls = "java/lang/String")
    (hpar : (parseMethodDescriptor y.desc).map (fun d => d.parameters.length) = some as.length) (hL30 : maxL ≤ 30) {j : Nat} (hj : j < 17) (ha : a = 1200 + j) (hr8 : z_cs r ≤ 8) (hd : decode cc pc = .ok (.invokevirtual i, 3)) (hcell : z ≤ R.cells ∧ 6 * z ≤ R.slots)
    (hgo : z_J p l e R s m args below meth c Q B D ρ cA nL (pc + 3) z L (v.toList ++ r) S) : z_J p l e R s m args below meth c Q B D ρ cA nL pc z L ((.ref a :: as).reverse ++ r) S := by
  obtain ⟨hx, hb, hml, hown, hts, hE, hRf, hRl⟩ := hctx
  subst ha
  have hws : ∀ w ∈ wsV own i y.cls y (z_cj y bytes maxL ret), w ∈ z_tb := by
    intro w hw
    unfold wsV at hw
    rcases List.mem_append.mp hw with h | h
    · simp only [List.mem_cons, List.not_mem_nil, or_false] at h
      rcases h with rfl | rfl | rfl | rfl
      · exact hl
      · exact hs
      · exact hse
      · exact hin
    · exact (List.mem_cons.mp h).elim (fun q => by rw [q]; exact hcode) id
  refine zj_call (mc := 0) (o := .inl v) (S' := S) (a := ((.ref (1200 + j) :: as).map (z_v ρ)).toArray) (rest := r) (fun ls H locs hls hw => ?_) (fun w hw => ?_) (fun ee he => by cases he)
  · exact vx_runV (As := as.map (z_v ρ)) (b := ρ (1200 + j)) (C := y.cls) (Ts := z_tb) (own := own) (index := i) (y := y) (bytes := bytes) (maxL := maxL) (ret := ret) (ws := z_cj y bytes maxL ret) ⟨hx, hb, hml, hown, hts⟩ hC (cwV as.length hts (z_goodIn hws) rfl rfl rfl ⟨rfl, by rw [hcl]; decide, by rw [hcl]; decide, hpar⟩ ⟨by simp only [z_rj]; omega, by simp only [z_rj]; omega⟩) ⟨z_Pc.blind, by rw [hcl]; exact vk_recv (adK := fun i => ρ (1200 + i)) (i := j) hE.2.2.1.2.2.2.2.2.2.2.1 hj hw.2, hw.pre hE⟩ rfl (by simp) hls.1 (by simp [z_v]) (z_hWs hr8) hd hcell
  · cases hw
    exact hgo
/-- fields of texts; statics -/
theorem zj_getO (hx : p.tables.exec = Jvm.exec) (hb : c.code = cc) {n d : String} {i a : Nat} {v : Value} (hF : va_OF "java/lang/String" n d (z_v ρ v) (ρ a) (fun q => B ≤ q) s s.heap) (hown : s.vm.findClass own = some m.cls) (hlink : (Cond.fieldLink own i "java/lang/String" n d).before args s = true) (hd : decode cc pc = .ok (.getfield i, 3)) (h : z_J p l e R s m args below meth c Q B D ρ cA nL (pc + 3) z L (v :: r) S) : z_J p l e R s m args below meth c Q B D ρ cA nL pc z L (.ref a :: r) S := fun ls H locs hl hw =>
  vk_getf hx hb hF hw.2 hown hlink (fun _ h9 => h9) hd (h ls H locs hl hw)
theorem zj_getS (hx : p.tables.exec = Jvm.exec) (hb : c.code = cc) {C n d : String} {i : Nat} {v : Value} (hZ : va_Z C n d (z_v ρ v) (fun q => B ≤ q) s s.heap) (hown : s.vm.findClass own = some m.cls) (hlink : (Cond.fieldLink own i C n d).before args s = true) (hd : decode cc pc = .ok (.getstatic i, 3)) (h : z_J p l e R s m args below meth c Q B D ρ cA nL (pc + 3) z L (v :: st) S) : z_J p l e R s m args below meth c Q B D ρ cA nL pc z L st S := fun ls H locs hl hw =>
  va_gets hx hb hZ hw.2 hown hlink (fun _ h9 => h9) hd (h ls H locs hl hw)
theorem zj_pop (hx : p.tables.exec = Jvm.exec) (hb : c.code = cc) {v : Value} (hc : v.category = 1) (hd : decode cc pc = .ok (.pop, 1)) (h : z_J p l e R s m args below meth c Q B D ρ cA nL (pc + 1) z L r S) : z_J p l e R s m args below meth c Q B D ρ cA nL pc z L (v :: r) S := fun ls H locs hl hw => lv_pop hx hb hd (by rw [z_vcat]; exact hc) (h ls H locs hl hw)
theorem zj_i2c (hx : p.tables.exec = Jvm.exec) (hb : c.code = cc) {x w : Int32} (hv : (x.toUInt32 % 65536).toInt32 = w) (hd : decode cc pc = .ok (.i2c, 1)) (h : z_J p l e R s m args below meth c Q B D ρ cA nL (pc + 1) z L (.int w :: r) S) : z_J p l e R s m args below meth c Q B D ρ cA nL pc z L (.int x :: r) S := fun ls H locs hl hw => lv_i2c hx hb hd hv (h ls H locs hl hw)
/-- the law of a body -/
theorem z_jbody {d : Nat} (hpl : plainName y.cls = true) (hfit : (z_sl as).length ≤ maxL)
    (body : ∀ (p : Program) (e : Env) (s : State) (m : MethodId) (args : Array Value) (below : List Frame) (meth : Method) (c : Code), z_Cx p (z_rj (d + 1)) s m args c B D ρ cA maxL bytes y.cls d → meth.sig.returnType = ret → meth.locks = false → z_J p l e (z_rj (d + 1)) s m args below meth c (z_MQ B D ρ cA (.inl v) S below args s 0) B D ρ cA maxL 0 0 (z_in maxL as) [] S) : z_CJ l B D ρ cA (d + 1) y bytes maxL ret as S (.inl v) := by
  refine vx_ofW hpl rfl (fun p e s m0 args below meth c s₁ Bd hml htab hP => ?_)
  have hts0 : ∀ w ∈ z_cj y bytes maxL ret, w.before args s = true := atoms_spec (ws := z_cj y bytes maxL ret) Bd.pre
  have hctx : z_Cx p (z_rj (d + 1)) s m0 args c B D ρ cA maxL bytes y.cls d := ⟨Bd.exec, Bd.bytes, hml, findClass_of_methodNamed Bd.named, fun w hw => hts0 w (List.mem_cons_of_mem _ hw), hP.2.1, by simp only [z_rj]; omega, by simp only [z_rj]; omega⟩
  have hJ := body p e s m0 args below meth c hctx Bd.returns Bd.notSynchronized
  have hargs : args = (as.map (z_v ρ)).toArray := hP.1
  subst hargs
  rw [lg_entry_eq]
  have hl := lv_entry (as.map (z_v ρ)) (n := maxL) (by rw [z_sl_len]; exact hfit)
  exact hJ _ s.heap [] (z_in_lr hl) ⟨hP.2.2, va_S.rf⟩
/-- an end with a number of any kind -/
theorem z_endN (hx : p.tables.exec = Jvm.exec) (hb : c.code = cc) {ty : FieldType} (hr : meth.sig.returnType = some ty) (hlocks : meth.locks = false) {x : Int32} (hn : narrow ty (.int x) = .int x) (hd : decode cc pc = .ok (.ireturn, 1)) {mc : Nat} : z_J p l e R s m args below meth c (z_MQ B D ρ cA (.inl (some (.int x))) S below args s mc) B D ρ cA nL pc 0 L [.int x] S := fun ls H locs hl hw =>
  vx_ret (z_wide (Nat.zero_le _) (Nat.zero_le _) (W.zret hx hb hr hn hw.q hw.2.2.2 hd hlocks))
theorem zj_tlen (hx : p.tables.exec = Jvm.exec) (hb : c.code = cc) (hE : z_Env B D cA ρ s) {j : Nat} (hj : j < 17) (hd : decode cc pc = .ok (.arraylength, 1)) (h : z_J p l e R s m args below meth c Q B D ρ cA nL (pc + 1) z L (.int (nI ((z_tx.map List.length).getD j 0)) :: r) S) : z_J p l e R s m args below meth c Q B D ρ cA nL pc z L (.ref (1250 + j) :: r) S := fun ls H locs hl hw =>
  va_tlen hx hb (hE.2.2.1.2.2.2.2.2.2.2.1.1 j hj).2.2.2 hw.2 rfl hd (h ls H locs hl hw)
theorem zj_tb (hx : p.tables.exec = Jvm.exec) (hb : c.code = cc) (hE : z_Env B D cA ρ s) {j : Nat} (hj : j < 17) {x : Int32} (hi : z_ix x ((z_tx.map List.length).getD j 0) = true) (hd : decode cc pc = .ok (.baload, 1)) (h : z_J p l e R s m args below meth c Q B D ρ cA nL (pc + 1) z L (.int ((z_tx.getD j []).getD x.toNatClampNeg 0) :: r) S) : z_J p l e R s m args below meth c Q B D ρ cA nL pc z L (.int x :: .ref (1250 + j) :: r) S := fun ls H locs hl hw =>
  va_tb hx hb (hE.2.2.1.2.2.2.2.2.2.2.1.1 j hj).2.2.2 hw.2 (z_ixin hi) rfl hd (h ls H locs hl hw)
end ZY
def z_yc : MethodName := ⟨"java/lang/String", "coder", "()B"⟩
def z_yl : MethodName := ⟨"java/lang/String", "isLatin1", "()Z"⟩
def z_yk : MethodName := ⟨"jdk/internal/util/Preconditions", "checkIndex", "(IILjava/util/function/BiFunction;)I"⟩
def z_yi : MethodName := ⟨"java/lang/String", "checkIndex", "(II)V"⟩
def z_y1 : MethodName := ⟨"java/lang/StringLatin1", "charAt", "([BI)C"⟩
theorem z_jw1 : Cond.fieldLink "java/lang/String" 38 "java/lang/String" "COMPACT_STRINGS" "Z" ∈ z_tb := z_tbm_ok (by decide +kernel)
theorem z_jw2 : Cond.fieldLink "java/lang/String" 15 "java/lang/String" "coder" "B" ∈ z_tb := z_tbm_ok (by decide +kernel)
theorem z_jw3 : Cond.fieldLink "java/lang/String" 9 "java/lang/String" "value" "[B" ∈ z_tb := z_tbm_ok (by decide +kernel)
theorem z_jw4 : Cond.fieldLink "java/lang/String" 1053 "jdk/internal/util/Preconditions" "SIOOBE_FORMATTER" "Ljava/util/function/BiFunction;" ∈ z_tb := z_tbm_ok (by decide +kernel)
theorem z_jwC : Cond.code z_yc prog_23_method_152_code 1 (some .byte) ∈ z_tb ∧ Cond.initialized "java/lang/String" ∈ z_tb ∧ Cond.methodLink "java/lang/String" 335 z_yc ∈ z_tb ∧ Cond.instanceMethod z_yc ∈ z_tb ∧ Cond.selects z_yc.cls z_yc z_yc ∈ z_tb := ⟨z_tbm_ok (by decide +kernel), z_tbm_ok (by decide +kernel), z_tbm_ok (by decide +kernel), z_tbm_ok (by decide +kernel), z_tbm_ok (by decide +kernel)⟩
theorem z_jwL : Cond.code z_yl prog_23_method_154_code 1 (some .boolean) ∈ z_tb ∧ Cond.methodLink "java/lang/String" 492 z_yl ∈ z_tb ∧ Cond.instanceMethod z_yl ∈ z_tb ∧ Cond.selects z_yl.cls z_yl z_yl ∈ z_tb := ⟨z_tbm_ok (by decide +kernel), z_tbm_ok (by decide +kernel), z_tbm_ok (by decide +kernel), z_tbm_ok (by decide +kernel)⟩
theorem z_jwK : Cond.code z_yk prog_32_method_11_code 3 (some .int) ∈ z_tb ∧ Cond.initialized z_yk.cls ∈ z_tb ∧ Cond.methodLink "java/lang/String" 1059 z_yk ∈ z_tb ∧ Cond.static z_yk ∈ z_tb := ⟨z_tbm_ok (by decide +kernel), z_tbm_ok (by decide +kernel), z_tbm_ok (by decide +kernel), z_tbm_ok (by decide +kernel)⟩
theorem z_jwI : Cond.code z_yi prog_23_method_155_code 2 none ∈ z_tb ∧ Cond.methodLink "java/lang/StringLatin1" 9 z_yi ∈ z_tb ∧ Cond.static z_yi ∈ z_tb := ⟨z_tbm_ok (by decide +kernel), z_tbm_ok (by decide +kernel), z_tbm_ok (by decide +kernel)⟩
theorem z_jw5 : Cond.code z_y1 prog_24_method_2_code 2 (some .char) ∈ z_tb ∧ Cond.initialized z_y1.cls ∈ z_tb ∧ Cond.methodLink "java/lang/String" 495 z_y1 ∈ z_tb ∧ Cond.static z_y1 ∈ z_tb := ⟨z_tbm_ok (by decide +kernel), z_tbm_ok (by decide +kernel), z_tbm_ok (by decide +kernel), z_tbm_ok (by decide +kernel)⟩
theorem z_jw6 : Cond.code z_sLen prog_23_method_54_code 1 (some .int) ∈ z_tb ∧ Cond.instanceMethod z_sLen ∈ z_tb ∧ Cond.selects z_sLen.cls z_sLen z_sLen ∈ z_tb := ⟨z_tbm_ok (by decide +kernel), z_tbm_ok (by decide +kernel), z_tbm_ok (by decide +kernel)⟩
theorem z_jw7 : Cond.code z_sCh prog_23_method_56_code 2 (some .char) ∈ z_tb ∧ Cond.instanceMethod z_sCh ∈ z_tb ∧ Cond.selects z_sCh.cls z_sCh z_sCh ∈ z_tb := ⟨z_tbm_ok (by decide +kernel), z_tbm_ok (by decide +kernel), z_tbm_ok (by decide +kernel)⟩
theorem z_pk : (parseMethodDescriptor z_yk.desc).map (fun d => d.parameters.length) = some 3 := by decide +kernel
theorem z_pi : (parseMethodDescriptor z_yi.desc).map (fun d => d.parameters.length) = some 2 := by decide +kernel
theorem z_p1 : (parseMethodDescriptor z_y1.desc).map (fun d => d.parameters.length) = some 2 := by decide +kernel
theorem z_pc : (parseMethodDescriptor z_sCh.desc).map (fun d => d.parameters.length) = some 1 := by decide +kernel
section ZZ
variable {l : Launch} {B : Nat} {D : va_G} {ρ : Nat → Nat} {cA : Nat → ClassId} {S : z_St} {d j : Nat}
theorem z_coder (hj : j < 17) : z_CJ l B D ρ cA (d + 1) z_yc prog_23_method_152_code 1 (some .byte) [.ref (1200 + j)] S (.inl (some (.int 0))) := z_jbody (by decide +kernel) (by simp [z_sl]) (fun p e s m args below meth c hctx hr hlocks => by
  obtain ⟨hx, hb, hml, hown, hts, hE, hRf, hRl⟩ := id hctx
  refine zj_getS hx hb (v := .int 1) (i := 38) hE.2.2.1.2.2.2.2.2.2.2.2.1 hown (hts _ z_jw1) (by decide +kernel) ?_
  refine zj_if_eq hx hb (o := 10) (t := 13) (by decide +kernel) (by decide) (fun q => absurd q (by decide)) (fun _ => ?_)
  refine zj_aload_n hx hb (k := 0) (a := 1200 + j) (by decide +kernel) rfl ?_
  refine zj_getO hx hb (i := 15) (v := .int 0) (hE.2.2.1.2.2.2.2.2.2.2.1.1 j hj).2.1 hown (hts _ z_jw2) (by decide +kernel) ?_
  refine zj_goto hx hb (o := 4) (t := 14) (by decide +kernel) (by decide) ?_
  exact z_endN hx hb hr hlocks rfl (by decide +kernel))
theorem z_lat (hj : j < 17) : z_CJ l B D ρ cA (d + 1) z_yl prog_23_method_154_code 1 (some .boolean) [.ref (1200 + j)] S (.inl (some (.int 1))) := z_jbody (by decide +kernel) (by simp [z_sl]) (fun p e s m args below meth c hctx hr hlocks => by
  obtain ⟨hx, hb, hml, hown, hts, hE, hRf, hRl⟩ := id hctx
  refine zj_getS hx hb (v := .int 1) (i := 38) hE.2.2.1.2.2.2.2.2.2.2.2.1 hown (hts _ z_jw1) (by decide +kernel) ?_
  refine zj_if_eq hx hb (o := 14) (t := 17) (by decide +kernel) (by decide) (fun q => absurd q (by decide)) (fun _ => ?_)
  refine zj_aload_n hx hb (k := 0) (a := 1200 + j) (by decide +kernel) rfl ?_
  refine zj_getO hx hb (i := 15) (v := .int 0) (hE.2.2.1.2.2.2.2.2.2.2.1.1 j hj).2.1 hown (hts _ z_jw2) (by decide +kernel) ?_
  refine zj_if_ne hx hb (o := 7) (t := 17) (by decide +kernel) (by decide) (fun q => absurd rfl q) (fun _ => ?_)
  refine zj_iconst hx hb (n := 1) (by decide +kernel) rfl ?_
  refine zj_goto hx hb (o := 4) (t := 18) (by decide +kernel) (by decide) ?_
  exact z_endN hx hb hr hlocks rfl (by decide +kernel))
theorem z_cki {x n : Int32} {v : Value} (hv : v = .null ∨ v = .ref 1299) (h0 : ¬ x < 0) (h1 : x < n) : z_CJ l B D ρ cA (d + 1) z_yk prog_32_method_11_code 3 (some .int) [.int x, .int n, v] S (.inl (some (.int x))) := z_jbody (by decide +kernel) (by rcases hv with rfl | rfl <;> simp [z_sl]) (fun p e s m args below meth c hctx hr hlocks => by
  obtain ⟨hx, hb, hml, hown, hts, hE, hRf, hRl⟩ := id hctx
  have g0 : z_lg (z_in 3 [.int x, .int n, v]) 0 = some (.int x) := by rcases hv with rfl | rfl <;> rfl
  have g1 : z_lg (z_in 3 [.int x, .int n, v]) 1 = some (.int n) := by rcases hv with rfl | rfl <;> rfl
  refine zj_iload_n hx hb (k := 0) (a := x) (by decide +kernel) g0 ?_
  refine zj_if_lt hx hb (o := 8) (t := 9) (by decide +kernel) (by decide) (fun q => absurd q h0) (fun _ => ?_)
  refine zj_iload_n hx hb (k := 0) (a := x) (by decide +kernel) g0 ?_
  refine zj_iload_n hx hb (k := 1) (a := n) (by decide +kernel) g1 ?_
  refine zj_ic_lt hx hb (o := 10) (t := 16) (by decide +kernel) (by decide) (fun _ => ?_) (fun q => absurd h1 q)
  refine zj_iload_n hx hb (k := 0) (a := x) (by decide +kernel) g0 ?_
  exact z_endN hx hb hr hlocks rfl (by decide +kernel))
theorem z_sci {x n : Int32} (h0 : ¬ x < 0) (h1 : x < n) : z_CJ l B D ρ cA (d + 2) z_yi prog_23_method_155_code 2 none [.int x, .int n] S (.inl none) := z_jbody (by decide +kernel) (by simp [z_sl]) (fun p e s m args below meth c hctx hr hlocks => by
  obtain ⟨hx, hb, hml, hown, hts, hE, hRf, hRl⟩ := id hctx
  refine zj_iload_n hx hb (k := 0) (a := x) (by decide +kernel) rfl ?_
  refine zj_iload_n hx hb (k := 1) (a := n) (by decide +kernel) rfl ?_
  have hz : ∃ v : Value, (v = .null ∨ v = .ref 1299) ∧ va_Z "jdk/internal/util/Preconditions" "SIOOBE_FORMATTER" "Ljava/util/function/BiFunction;" (z_v ρ v) (fun q => B ≤ q) s s.heap := by
    rcases hE.2.2.1.2.2.2.2.2.2.2.2.2 with h | h
    · exact ⟨.null, Or.inl rfl, h⟩
    · exact ⟨.ref 1299, Or.inr rfl, h⟩
  obtain ⟨v, hv, hZ⟩ := hz
  refine zj_getS hx hb (v := v) (i := 1053) hZ hown (hts _ z_jw4) (by decide +kernel) ?_
  refine zk_S hctx (as := [.int x, .int n, v]) (r := []) (z_cki hv h0 h1) z_jwK.1 z_jwK.2.1 z_jwK.2.2.1 z_jwK.2.2.2 ⟨by decide, by decide⟩ z_pk (by decide) (by decide) (by decide +kernel) ⟨Nat.zero_le _, Nat.zero_le _⟩ ?_
  refine zj_pop hx hb rfl (by decide +kernel) ?_
  exact z_endV hx hb hr hlocks (by decide +kernel))
theorem z_txok : ∀ j, j < 17 → ∀ k, k < (z_tx.getD j []).length → ((((z_tx.getD j []).getD k 0) &&& 255).toUInt32 % 65536).toInt32 = (z_tx.getD j []).getD k 0 ∧ narrow .char (.int ((z_tx.getD j []).getD k 0)) = .int ((z_tx.getD j []).getD k 0) := by decide +kernel
theorem z_txlen : ∀ j, j < 17 → (z_tx.map List.length).getD j 0 = (z_tx.getD j []).length ∧ (nI (z_tx.getD j []).length) >>> ((0 : Int32) &&& 31) = nI (z_tx.getD j []).length ∧ (z_tx.getD j []).length < 20 := by decide +kernel
theorem z_ixlt {x : Int32} {n : Nat} (hn : n < 20) (h : z_ix x n = true) : ¬ x < 0 ∧ x < nI n := by
  simp only [z_ix, Bool.and_eq_true, Bool.not_eq_true', decide_eq_false_iff_not, decide_eq_true_eq] at h
  refine ⟨h.1, ?_⟩
  rw [Int32.lt_iff_toInt_lt, nI_toInt (by omega)]
  have h0 : 0 ≤ x.toInt := by
    have := Int32.not_lt.mp h.1
    simpa using Int32.le_iff_toInt_le.mp this
  have h2 : x.toInt.toNat < n := h.2
  omega
theorem z_ch1 (hj : j < 17) {x : Int32} (hi : z_ix x (z_tx.getD j []).length = true) : z_CJ l B D ρ cA (d + 3) z_y1 prog_24_method_2_code 2 (some .char) [.ref (1250 + j), .int x] S (.inl (some (.int ((z_tx.getD j []).getD x.toNatClampNeg 0)))) := z_jbody (by decide +kernel) (by simp [z_sl]) (fun p e s m args below meth c hctx hr hlocks => by
  obtain ⟨hx, hb, hml, hown, hts, hE, hRf, hRl⟩ := id hctx
  obtain ⟨q1, q2, q3⟩ := z_txlen j hj
  obtain ⟨i0, i1⟩ := z_ixlt q3 hi
  have hk : x.toNatClampNeg < (z_tx.getD j []).length := by
    simp only [z_ix, Bool.and_eq_true, decide_eq_true_eq] at hi
    exact hi.2
  obtain ⟨t1, t2⟩ := z_txok j hj x.toNatClampNeg hk
  refine zj_iload_n hx hb (k := 1) (a := x) (by decide +kernel) rfl ?_
  refine zj_aload_n hx hb (k := 0) (a := 1250 + j) (by decide +kernel) rfl ?_
  refine zj_tlen hx hb hE hj (by decide +kernel) ?_
  rw [q1]
  refine zk_S hctx (as := [.int x, .int (nI (z_tx.getD j []).length)]) (r := []) (z_sci i0 i1) z_jwI.1 z_jwC.2.1 z_jwI.2.1 z_jwI.2.2 ⟨by decide, by decide⟩ z_pi (by decide) (by decide) (by decide +kernel) ⟨Nat.zero_le _, Nat.zero_le _⟩ ?_
  refine zj_aload_n hx hb (k := 0) (a := 1250 + j) (by decide +kernel) rfl ?_
  refine zj_iload_n hx hb (k := 1) (a := x) (by decide +kernel) rfl ?_
  refine zj_tb hx hb hE hj (by rw [q1]; exact hi) (by decide +kernel) ?_
  refine zj_sipush hx hb (n := 255) (by decide +kernel) rfl ?_
  refine zj_iand hx hb (by decide +kernel) ?_
  refine zj_i2c hx hb t1 (by decide +kernel) ?_
  exact z_endN hx hb hr hlocks t2 (by decide +kernel))
theorem z_len (hj : j < 17) : z_CJ l B D ρ cA (d + 2) z_sLen prog_23_method_54_code 1 (some .int) [.ref (1200 + j)] S (.inl (some (.int (nI (z_tx.getD j []).length)))) := z_jbody (by decide +kernel) (by simp [z_sl]) (fun p e s m args below meth c hctx hr hlocks => by
  obtain ⟨hx, hb, hml, hown, hts, hE, hRf, hRl⟩ := id hctx
  obtain ⟨q1, q2, q3⟩ := z_txlen j hj
  refine zj_aload_n hx hb (k := 0) (a := 1200 + j) (by decide +kernel) rfl ?_
  refine zj_getO hx hb (i := 9) (v := .ref (1250 + j)) (hE.2.2.1.2.2.2.2.2.2.2.1.1 j hj).2.2.1 hown (hts _ z_jw3) (by decide +kernel) ?_
  refine zj_tlen hx hb hE hj (by decide +kernel) ?_
  rw [q1]
  refine zj_aload_n hx hb (k := 0) (a := 1200 + j) (by decide +kernel) rfl ?_
  refine zk_V hctx (as := []) (r := [.int (nI (z_tx.getD j []).length)]) (z_coder hj) z_jwC.1 z_jwC.2.1 z_jwC.2.2.1 z_jwC.2.2.2.1 z_jwC.2.2.2.2 rfl (by decide +kernel) (by decide) hj rfl (Nat.le_of_ble_eq_true rfl) (by decide +kernel) ⟨Nat.zero_le _, Nat.zero_le _⟩ ?_
  refine zj_ishr hx hb (by decide +kernel) ?_
  rw [q2]
  exact z_endN hx hb hr hlocks rfl (by decide +kernel))
theorem z_chA (hj : j < 17) {x : Int32} (hi : z_ix x (z_tx.getD j []).length = true) : z_CJ l B D ρ cA (d + 4) z_sCh prog_23_method_56_code 2 (some .char) [.ref (1200 + j), .int x] S (.inl (some (.int ((z_tx.getD j []).getD x.toNatClampNeg 0)))) := z_jbody (by decide +kernel) (by simp [z_sl]) (fun p e s m args below meth c hctx hr hlocks => by
  obtain ⟨hx, hb, hml, hown, hts, hE, hRf, hRl⟩ := id hctx
  have hk : x.toNatClampNeg < (z_tx.getD j []).length := by
    simp only [z_ix, Bool.and_eq_true, decide_eq_true_eq] at hi
    exact hi.2
  obtain ⟨t1, t2⟩ := z_txok j hj x.toNatClampNeg hk
  refine zj_aload_n hx hb (k := 0) (a := 1200 + j) (by decide +kernel) rfl ?_
  refine zk_V hctx (as := []) (r := []) (z_lat hj) z_jwL.1 z_jwC.2.1 z_jwL.2.1 z_jwL.2.2.1 z_jwL.2.2.2 rfl (by decide +kernel) (by decide) hj rfl (by decide) (by decide +kernel) ⟨Nat.zero_le _, Nat.zero_le _⟩ ?_
  refine zj_if_eq hx hb (o := 12) (t := 16) (by decide +kernel) (by decide) (fun q => absurd q (by decide)) (fun _ => ?_)
  refine zj_aload_n hx hb (k := 0) (a := 1200 + j) (by decide +kernel) rfl ?_
  refine zj_getO hx hb (i := 9) (v := .ref (1250 + j)) (hE.2.2.1.2.2.2.2.2.2.2.1.1 j hj).2.2.1 hown (hts _ z_jw3) (by decide +kernel) ?_
  refine zj_iload_n hx hb (k := 1) (a := x) (by decide +kernel) rfl ?_
  refine zk_S hctx (as := [.ref (1250 + j), .int x]) (r := []) (z_ch1 hj hi) z_jw5.1 z_jw5.2.1 z_jw5.2.2.1 z_jw5.2.2.2 ⟨by decide, by decide⟩ z_p1 (by decide) (by decide) (by decide +kernel) ⟨Nat.zero_le _, Nat.zero_le _⟩ ?_
  exact z_endN hx hb hr hlocks t2 (by decide +kernel))
theorem z_str (l : Launch) (B : Nat) (D : va_G) (ρ : Nat → Nat) (cA : Nat → ClassId) : z_Str l B D ρ cA := by
  intro p e R s m args below meth c Q nL cc own dd hctx pc ix hd
  obtain ⟨hx, hb, hml, hown, hts, hE, hAp, hRf, hRl⟩ := id hctx
  have hcx : z_Cx p R s m args c B D ρ cA nL cc own 4 := ⟨hx, hb, hml, hown, hts, hE, by omega, by omega⟩
  have hin : ∀ a, Nat.ble 1200 a = true → Nat.blt a 1217 = true → ∃ j, j < 17 ∧ a = 1200 + j := by
    intro a h1 h2
    have a1 : 1200 ≤ a := Nat.le_of_ble_eq_true h1
    have a2 : a < 1217 := Nat.blt_eq.mp h2
    exact ⟨a - 1200, by omega, by omega⟩
  constructor
  · intro hl z L rest S a h1 h2 h3 h4 h5
    obtain ⟨j, hj, rfl⟩ := hin a h1 h2
    rw [Nat.add_sub_cancel_left] at h5
    exact zk_V hcx (as := []) (r := rest) (z_len (d := 2) hj) z_jw6.1 z_jwC.2.1 hl z_jw6.2.1 z_jw6.2.2 rfl (by decide +kernel) (by decide) hj rfl h3 hd h4 h5
  · intro hl z L rest S a x h1 h2 h3 h4 h5 h6
    obtain ⟨j, hj, rfl⟩ := hin a h1 h2
    rw [Nat.add_sub_cancel_left] at h3 h6
    exact zk_V hcx (as := [.int x]) (r := rest) (z_chA (d := 0) hj h3) z_jw7.1 z_jwC.2.1 hl z_jw7.2.1 z_jw7.2.2 rfl z_pc (by decide) hj rfl h4 hd h5 h6
end ZZ
