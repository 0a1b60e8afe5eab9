/-! rows on the things that are there from the start -/
section ZJR
variable {p : Program} {l : Launch} {e : Env} {R : Room} {s : State} {m : MethodId} {args : Array Value} {below : List Frame} {meth : Method} {c : Code} {Q : State → Prop} {B : Nat} {D : va_G} {ρ : Nat → Nat} {cA : Nat → ClassId} {nL : Nat}
variable {cc : ByteArray} {pc z : Nat} {L : z_Lo} {st r : List Value} {S : z_St}
theorem zj_getstatic (hx : p.tables.exec = Jvm.exec) (hb : c.code = cc) {own n d : String} {i v : Nat} (hZ : va_Z "SlipRoom$Word" n d (.ref (ρ v)) (fun q => B ≤ q) s s.heap) (hown : s.vm.findClass own = some m.cls) (hlink : (Cond.fieldLink own i "SlipRoom$Word" n d).before args s = true ∨ ∃ host, (Cond.fieldLinkNest own i "SlipRoom$Word" n d host).before args s = true) (hd : decode cc pc = .ok (.getstatic i, 3)) (h : z_J p l e R s m args below meth c Q B D ρ cA nL (pc + 3) z L (.ref v :: st) S) : z_J p l e R s m args below meth c Q B D ρ cA nL pc z L st S := fun ls H locs hl hw => by
  rcases hlink with hlink | ⟨host, hlink⟩
  · exact va_gets hx hb hZ hw.2 hown hlink (fun _ h9 => h9) hd (h ls H locs hl hw)
  · exact va_getsN hx hb hZ hw.2 hown hlink (fun _ h9 => h9) hd (h ls H locs hl hw)
theorem zj_getW (hx : p.tables.exec = Jvm.exec) (hb : c.code = cc) {own n d : String} {i a : Nat} {v : Value} (hF : va_OF "SlipRoom$Word" n d (z_v ρ v) (ρ a) (fun q => B ≤ q) s s.heap) (hown : s.vm.findClass own = some m.cls) (hlink : (Cond.fieldLink own i "SlipRoom$Word" n d).before args s = true ∨ ∃ host, (Cond.fieldLinkNest own i "SlipRoom$Word" n d host).before args s = true) (hd : decode cc pc = .ok (.getfield i, 3)) (h : z_J p l e R s m args below meth c Q B D ρ cA nL (pc + 3) z L (v :: r) S) : z_J p l e R s m args below meth c Q B D ρ cA nL pc z L (.ref a :: r) S := fun ls H locs hl hw => by
  rcases hlink with hlink | ⟨host, hlink⟩
  · exact vk_getf hx hb hF hw.2 hown hlink (fun _ h9 => h9) hd (h ls H locs hl hw)
  · obtain ⟨cf, k, fi, f, cell, h1, h2, h3, h4, h5, h6⟩ := hF.kept hw.2.2.1
    exact va_Wgetf hx hb hown hlink h1 h2 h3 h4 (v := z_v ρ v) h5 rfl rfl hd (h ls H locs hl hw)
theorem zj_aaA (hx : p.tables.exec = Jvm.exec) (hb : c.code = cc) {x : Int32} (hT : va_T (.object "SlipRoom$Word") (ρ 1100) 17 (fun j => .ref (ρ (1000 + j))) (fun q => B ≤ q) s s.heap) (hd : decode cc pc = .ok (.aaload, 1)) (hi : z_ix x 17 = true) (h : z_J p l e R s m args below meth c Q B D ρ cA nL (pc + 1) z L (.ref (1000 + x.toNatClampNeg) :: r) S) : z_J p l e R s m args below meth c Q B D ρ cA nL pc z L (.int x :: .ref 1100 :: r) S := fun ls H locs hl hw =>
  vb_tq hx hb hT hw.2 (z_ixin hi) rfl hd (h ls H locs hl hw)
theorem zj_alA (hx : p.tables.exec = Jvm.exec) (hb : c.code = cc) (hT : va_T (.object "SlipRoom$Word") (ρ 1100) 17 (fun j => .ref (ρ (1000 + j))) (fun q => B ≤ q) s s.heap) (hd : decode cc pc = .ok (.arraylength, 1)) (h : z_J p l e R s m args below meth c Q B D ρ cA nL (pc + 1) z L (.int (nI 17) :: r) S) : z_J p l e R s m args below meth c Q B D ρ cA nL pc z L (.ref 1100 :: r) S := fun ls H locs hl hw =>
  va_tlen hx hb hT hw.2 rfl hd (h ls H locs hl hw)
theorem zj_aa (hx : p.tables.exec = Jvm.exec) (hb : c.code = cc) (hK : va_K D z_cls (z_tys cA) s) {x : Int32} {a : Nat} (hd : decode cc pc = .ok (.aaload, 1)) (ht : z_at a = 5) (hi : z_ix x (z_ln a) = true) (h : z_J p l e R s m args below meth c Q B D ρ cA nL (pc + 1) z L (.ref (z_vs.getD x.toNatClampNeg 0) :: r) S) : z_J p l e R s m args below meth c Q B D ρ cA nL pc z L (.int x :: .ref a :: r) S := fun ls H locs hl hw =>
  va_aldq (f := fun i => some (ρ (z_vs.getD i 0))) hx hb hK hw.1 a 4 (by rw [z_wl_get (z_at_lt (by rw [ht]; decide)), z_ce_q ht]) rfl (z_ixin hi) hd (h ls H locs hl hw)
theorem zj_ac_eq (hx : p.tables.exec = Jvm.exec) (hb : c.code = cc) {x y : Nat} {o : Int} {t : Nat} (hi : ρ x = ρ y → x = y) (hd : decode cc pc = .ok (.if_acmp .eq o, 3)) (ht : (pc : Int) + o = (t : Int)) (h1 : x = y → z_J p l e R s m args below meth c Q B D ρ cA nL t z L r S) (h2 : ¬ x = y → z_J p l e R s m args below meth c Q B D ρ cA nL (pc + 3) z L r S) : z_J p l e R s m args below meth c Q B D ρ cA nL pc z L (.ref y :: .ref x :: r) S := fun ls H locs hl hw =>
  lv_acmp_eq (rx := some (ρ x)) (ry := some (ρ y)) hx hb hd ht (fun q => h1 (hi (Option.some.inj q)) ls H locs hl hw) (fun q => h2 (fun h9 => q (by rw [h9])) ls H locs hl hw)
theorem zj_ac_ne (hx : p.tables.exec = Jvm.exec) (hb : c.code = cc) {x y : Nat} {o : Int} {t : Nat} (hi : ρ x = ρ y → x = y) (hd : decode cc pc = .ok (.if_acmp .ne o, 3)) (ht : (pc : Int) + o = (t : Int)) (h1 : ¬ x = y → z_J p l e R s m args below meth c Q B D ρ cA nL t z L r S) (h2 : x = y → z_J p l e R s m args below meth c Q B D ρ cA nL (pc + 3) z L r S) : z_J p l e R s m args below meth c Q B D ρ cA nL pc z L (.ref y :: .ref x :: r) S := fun ls H locs hl hw =>
  lv_acmp_ne (rx := some (ρ x)) (ry := some (ρ y)) hx hb hd ht (fun q => h1 (fun h9 => q (by rw [h9])) ls H locs hl hw) (fun q => h2 (hi (Option.some.inj q)) ls H locs hl hw)
theorem zj_ldcw (hx : p.tables.exec = Jvm.exec) (hb : c.code = cc) {own : String} {i : Nat} {v : Int32} (hown : s.vm.findClass own = some m.cls) (hk : (Jvm.Cond.constant own i v).before args s = true) (hd : decode cc pc = .ok (.ldc_w i, 3)) (h : z_J p l e R s m args below meth c Q B D ρ cA nL (pc + 3) z L (.int v :: st) S) : z_J p l e R s m args below meth c Q B D ρ cA nL pc z L st S := fun ls H locs hl hw => lv_ldcw hx hb hown hk hd (h ls H locs hl hw)
theorem zj_ldcs (hx : p.tables.exec = Jvm.exec) (hb : c.code = cc) {own tx : String} {i v : Nat} (hown : s.vm.findClass own = some m.cls) (hk : vk_R own i tx (ρ v) s) (hd : decode cc pc = .ok (.ldc i, 2)) (h : z_J p l e R s m args below meth c Q B D ρ cA nL (pc + 2) z L (.ref v :: st) S) : z_J p l e R s m args below meth c Q B D ρ cA nL pc z L st S := fun ls H locs hl hw T hT X => by
  obtain ⟨t, a1, b1⟩ := h ls H locs hl hw T hT X
  subst hb
  exact ⟨t, X.ldcString hx (text := tx) hown hk.1 hk.2 (g := F0 m pc ls (st.map (z_v ρ))) rfl hd t a1, b1⟩
theorem zj_ldcsw (hx : p.tables.exec = Jvm.exec) (hb : c.code = cc) {own tx : String} {i v : Nat} (hown : s.vm.findClass own = some m.cls) (hk : vk_R own i tx (ρ v) s) (hd : decode cc pc = .ok (.ldc_w i, 3)) (h : z_J p l e R s m args below meth c Q B D ρ cA nL (pc + 3) z L (.ref v :: st) S) : z_J p l e R s m args below meth c Q B D ρ cA nL pc z L st S := fun ls H locs hl hw T hT X => by
  obtain ⟨t, a1, b1⟩ := h ls H locs hl hw T hT X
  subst hb
  exact ⟨t, X.ldcStringW hx (text := tx) hown hk.1 hk.2 (g := F0 m pc ls (st.map (z_v ρ))) rfl hd t a1, b1⟩
/-- rows copied -/
theorem zj_cp1 (hx : p.tables.exec = Jvm.exec) (hb : c.code = cc) (hml : c.maxLocals = nL) (hK : va_K D z_cls (z_tys cA) s) (hAp : z_Ap B ρ) {own : String} {i a b : Nat} {x y k : Int32} (hown : s.vm.findClass own = some m.cls) (hlink : (Cond.methodLink own i arraycopyName).before args s = true) (hnat : (Cond.native arraycopyName).before args s = true) (hstat : (Cond.static arraycopyName).before args s = true) (hini : (Cond.initialized "java/lang/System").before args s = true)
    (ha : z_at a = 1) (hbb : z_at b = 1) (h1 : ¬ x < 0) (h2 : ¬ y < 0) (h3 : ¬ k < 0) (h4 : x.toNatClampNeg + k.toNatClampNeg ≤ z_ln a) (h5 : y.toNatClampNeg + k.toNatClampNeg ≤ z_ln b) (hRf : 1 ≤ R.frames) (hc : z_cs r ≤ 8) (hRl : 200 ≤ R.locals)
    (hd : decode cc pc = .ok (.invokestatic i, 3)) (h : z_J p l e R s m args below meth c Q B D ρ cA nL (pc + 3) z L r (z_c1 S.1 a b x.toNatClampNeg y.toNatClampNeg k.toNatClampNeg, S.2)) : z_J p l e R s m args below meth c Q B D ρ cA nL pc z L (.int k :: .int y :: .ref b :: .int x :: .ref a :: r) S := fun ls H locs hl hw => by
  refine va_copyi hx hb (by rw [hml]; exact hl.1.symm) hown hlink hnat hstat hini hK hw.1 (hAp.D cA S) hw.2 a b 0 0 (by rw [z_wl_get (z_at_lt (by rw [ha]; decide)), z_ce_n ha (Or.inl rfl)]) (by rw [z_wl_get (z_at_lt (by rw [hbb]; decide)), z_ce_n hbb (Or.inl rfl)]) rfl rfl rfl h1 h2 h3 h4 h5 (fun _ _ => rfl) hRf ?_ hd (fun H1 locs1 hP hD hS => ?_)
  · rw [z_csum]
    have : nativeFrameWords "java/lang/System" "arraycopy" 5 + 11 ≤ 100 := by decide +kernel
    omega
  · rw [z_setc1 (z_at_lt (by rw [hbb]; decide)) hbb] at hP
    exact h ls H1 locs1 hl ⟨hP, hS⟩
theorem zj_cp2 (hx : p.tables.exec = Jvm.exec) (hb : c.code = cc) (hml : c.maxLocals = nL) (hK : va_K D z_cls (z_tys cA) s) (hAp : z_Ap B ρ) {own : String} {i a b : Nat} {x y k : Int32} (hown : s.vm.findClass own = some m.cls) (hlink : (Cond.methodLink own i arraycopyName).before args s = true) (hnat : (Cond.native arraycopyName).before args s = true) (hstat : (Cond.static arraycopyName).before args s = true) (hini : (Cond.initialized "java/lang/System").before args s = true)
    (ha : z_at a = 4) (hbb : z_at b = 4) (h1 : ¬ x < 0) (h2 : ¬ y < 0) (h3 : ¬ k < 0) (h4 : x.toNatClampNeg + k.toNatClampNeg ≤ z_ln a) (h5 : y.toNatClampNeg + k.toNatClampNeg ≤ z_ln b) (hRf : 1 ≤ R.frames) (hc : z_cs r ≤ 8) (hRl : 200 ≤ R.locals)
    (hd : decode cc pc = .ok (.invokestatic i, 3)) (h : z_J p l e R s m args below meth c Q B D ρ cA nL (pc + 3) z L r (S.1, z_c2 S.2 a b x.toNatClampNeg y.toNatClampNeg k.toNatClampNeg)) : z_J p l e R s m args below meth c Q B D ρ cA nL pc z L (.int k :: .int y :: .ref b :: .int x :: .ref a :: r) S := fun ls H locs hl hw => by
  refine va_copyl hx hb (by rw [hml]; exact hl.1.symm) hown hlink hnat hstat hini hK hw.1 (hAp.D cA S) hw.2 a b 3 3 (by rw [z_wl_get (z_at_lt (by rw [ha]; decide)), z_ce_l ha]) (by rw [z_wl_get (z_at_lt (by rw [hbb]; decide)), z_ce_l hbb]) rfl rfl rfl h1 h2 h3 h4 h5 (fun _ _ => rfl) hRf ?_ hd (fun H1 locs1 hP hD hS => ?_)
  · rw [z_csum]
    have : nativeFrameWords "java/lang/System" "arraycopy" 5 + 11 ≤ 100 := by decide +kernel
    omega
  · rw [z_setc2 (z_at_lt (by rw [hbb]; decide)) hbb] at hP
    exact h ls H1 locs1 hl ⟨hP, hS⟩
end ZJR
