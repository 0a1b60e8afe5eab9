/-! what a program of mine has to check of the data: decided, method by method -/
def z_wn : List String := ["OTHER", "BOOK_WORD", "PARTS_WORD", "READER_WORD", "COLOUR_WORD", "BACK_WORD", "ENDS_WORD", "STOPS_WORD", "OR_WORD", "AND_WORD", "NOT_WORD", "PAGE_WORD", "LEFT_WORD", "INTO_WORD", "READ_WORD", "HOUR_WORD", "DAY_WORD"]
/-- the words on a nest mate's members -/
def z_isN : Cond → Bool
  | .fieldLinkNest _ _ _ _ _ _ => true
  | .methodLinkNest _ _ _ _ => true
  | _ => false
noncomputable def z_nw : List Cond := lw_tbl.filter z_isN
def z_en (e : Nat) : String := match e with
  | 0 => "java/util/NoSuchElementException"
  | _ => "java/lang/IllegalArgumentException"
noncomputable def z_tb : List Cond := lw_tbl.filter goodWord
noncomputable def z_isw (m : Nat) : Bool := !(z_m m).2.2.2.2.2.isEmpty
noncomputable def z_cw (m : Nat) : Cond := cond (z_isw m) (.codeWith (z_m m).1 (z_m m).2.1 (z_m m).2.2.1 (z_m m).2.2.2.1 (z_hh.getD m [])) (.code (z_m m).1 (z_m m).2.1 (z_m m).2.2.1 (z_m m).2.2.2.1)
noncomputable def z_ws (m : Nat) : List Cond := z_cw m :: z_tb
def z_il : Instr → Nat
  | .bipush _ => 2 | .aload _ => 2 | .iload _ => 2 | .lload _ => 2 | .istore _ => 2 | .astore _ => 2 | .lstore _ => 2 | .ldc _ => 2
  | .sipush _ => 3 | .iinc _ _ => 3 | .getfield _ => 3 | .putfield _ => 3 | .getstatic _ => 3 | .ldc_w _ => 3 | .ldc2_w _ => 3 | .ifCond _ _ => 3 | .if_icmp _ _ => 3 | .if_acmp _ _ => 3 | .goto _ => 3 | .invokevirtual _ => 3 | .invokestatic _ => 3
  | _ => 1
def z_dec (cc : ByteArray) (pc : Nat) (i : Instr) (len : Nat) : Bool := match decode cc pc with
  | .ok (j, k) => decide (j = i) && Nat.beq k len
  | _ => false
theorem z_dec_ok {cc : ByteArray} {pc len : Nat} {i : Instr} (h : z_dec cc pc i len = true) : decode cc pc = .ok (i, len) := by
  unfold z_dec at h
  split at h
  · rename_i j k e
    simp only [Bool.and_eq_true, decide_eq_true_eq, Nat.beq_eq] at h
    rw [e, h.1, h.2]
  · cases h
noncomputable def z_inT (w : Cond) (ti : Nat) : Bool := decide (lw_tbl[ti]? = some w) && goodWord w
noncomputable def z_inN (w : Cond) (ti : Nat) : Bool := decide (lw_tbl[ti]? = some w) && z_isN w
theorem z_inT_ok {w : Cond} {ti : Nat} (h : z_inT w ti = true) : w ∈ z_tb := by
  simp only [z_inT, Bool.and_eq_true, decide_eq_true_eq] at h
  exact List.mem_filter.mpr ⟨List.mem_of_getElem? h.1, h.2⟩
theorem z_inN_ok {w : Cond} {ti : Nat} (h : z_inN w ti = true) : w ∈ z_nw := by
  simp only [z_inN, Bool.and_eq_true, decide_eq_true_eq] at h
  exact List.mem_filter.mpr ⟨List.mem_of_getElem? h.1, h.2⟩
def z_TT (c : Nat) : u_T := (z_cls.getD c ("", z_T0, 0)).2.1
noncomputable def z_okF (own : String) (i c k nest ti : Nat) : Bool := cond (Nat.beq nest 0) (z_inT (.fieldLink own i (z_TT c k).1 (z_TT c k).2.1 (z_TT c k).2.2.1) ti) (z_inN (.fieldLinkNest own i (z_TT c k).1 (z_TT c k).2.1 (z_TT c k).2.2.1 "SlipRoom") ti)
noncomputable def z_okW (own : String) (i : Nat) (n d : String) (nest ti : Nat) : Bool := cond (Nat.beq nest 0) (z_inT (.fieldLink own i "SlipRoom$Word" n d) ti) (z_inN (.fieldLinkNest own i "SlipRoom$Word" n d "SlipRoom") ti)
/-- what a field's descriptor says -/
def z_tyk (t v : Nat) : FieldType := match t with
  | 0 => match v with | 0 => .int | _ => .boolean
  | _ => .object "x"
noncomputable def z_okO (own : String) (i : Instr) (ops : List Nat) : Bool := match i with
  | .iconst n => decide (Int32.ofInt n = z_cn n)
  | .bipush n => decide ((Int8.ofInt n).toInt32 = z_cn n)
  | .sipush n => decide ((Int16.ofInt n).toInt32 = z_cn n)
  | .iinc _ n => decide (Int32.ofInt n = z_cn n)
  | .getfield ix => match ops with
    | [c, k, t, v, nest, ti] => cond (Nat.beq c 10) (cond (Nat.beq t 4) (z_okW own ix "letters" "Ljava/lang/String;" nest ti) (Nat.beq t 5 && z_okW own ix "value" "I" nest ti)) (Nat.blt c 10 && Nat.blt k (z_nf c) && decide (z_ftg c k = (t, v)) && z_okF own ix c k nest ti)
    | _ => false
  | .putfield ix => match ops with
    | [c, k, t, v, nest, ti] => Nat.blt c 10 && Nat.blt k (z_nf c) && decide (z_ftg c k = (t, v)) && z_okF own ix c k nest ti && !(z_TT c k).2.2.2 && (cond (Nat.beq t 0) (decide (parseFieldDescriptor (z_TT c k).2.2.1 = some (z_tyk t v))) (decide (((parseFieldDescriptor (z_TT c k).2.2.1).map fun f => match f with | .object _ => true | _ => false) = some true)))
    | _ => false
  | .getstatic ix => match ops with
    | [v, nest, ti] => cond (Nat.beq v 1100) (z_okW own ix "ALL" "[LSlipRoom$Word;" nest ti) (Nat.ble 1000 v && Nat.blt v 1017 && z_okW own ix (z_wn.getD (v - 1000) "") "LSlipRoom$Word;" nest ti)
    | _ => false
  | .ldc ix => match ops with
    | [0, v, ti] => z_inT (.constant own ix (nI v)) ti
    | [1, v, _] => decide (own = "SlipRoomModel") && z_strs.any (fun q => Nat.beq q.1 ix && Nat.beq q.2.2 v)
    | _ => false
  | .ldc_w ix => match ops with
    | [0, v, ti] => z_inT (.constant own ix (nI v)) ti
    | [1, v, _] => decide (own = "SlipRoomModel") && z_strs.any (fun q => Nat.beq q.1 ix && Nat.beq q.2.2 v)
    | _ => false
  | .ldc2_w ix => match ops with
    | [v, ti] => z_inT (.constantLong own ix (lN v)) ti
    | _ => false
  | .invokevirtual ix => match ops with
    | [m, n, kind, rc, _, ti] => cond (Nat.beq kind 7 || Nat.beq kind 8) true (Nat.blt m 211 && Nat.beq n ((z_mi.getD m (0, 0, 0, 0, 0)).2.2.2.2 + 1) && Nat.blt rc 10 && decide ((z_m m).1.cls = z_own.getD rc "") && decide ((z_cls.getD rc ("", z_T0, 0)).1 = z_own.getD rc "") && !(z_isw m) &&
        (cond (Nat.beq kind 2) (z_inT (.methodLink own ix (z_m m).1) ti) (Nat.beq kind 3 && z_inN (.methodLinkNest own ix (z_m m).1 "SlipRoom") ti)) && z_inT (.instanceMethod (z_m m).1) (z_mi.getD m (0, 0, 0, 0, 0)).2.1 && z_inT (.selects (z_m m).1.cls (z_m m).1 (z_m m).1) (z_mi.getD m (0, 0, 0, 0, 0)).2.2.1)
    | _ => false
  | .invokestatic ix => match ops with
    | [m, n, kind, _, _, ti] => cond (Nat.beq kind 6) (z_inT (.methodLink own ix arraycopyName) ti && Nat.beq n 5) (Nat.blt m 211 && Nat.beq n (z_mi.getD m (0, 0, 0, 0, 0)).2.2.2.2 &&
        (cond (Nat.beq kind 0) (!(z_isw m) && z_inT (.methodLink own ix (z_m m).1) ti) (cond (Nat.beq kind 1) (!(z_isw m) && z_inN (.methodLinkNest own ix (z_m m).1 "SlipRoom") ti) (Nat.beq kind 4 && z_isw m && z_inT (.methodLink own ix (z_m m).1) ti))) && z_inT (.static (z_m m).1) (z_mi.getD m (0, 0, 0, 0, 0)).2.1)
    | _ => false
  | .if_acmp _ _ => true
  | _ => true
def z_okP (pc : Nat) (o : Int) : Bool := decide (0 ≤ (pc : Int) + o)
theorem z_okP_ok {pc : Nat} {o : Int} (h : z_okP pc o = true) : (pc : Int) + o = (z_tg pc o : Int) := by
  simp only [z_okP, decide_eq_true_eq] at h
  simp only [z_tg]; omega
def z_okJ (pc : Nat) (i : Instr) : Bool := match i with
  | .ifCond _ o => z_okP pc o
  | .if_icmp _ o => z_okP pc o
  | .if_acmp _ o => z_okP pc o
  | .goto o => z_okP pc o
  | .tableswitch d _ _ offs => z_okP pc d && offs.toList.all (z_okP pc)
  | .lookupswitch d ps => z_okP pc d && ps.toList.all (fun q => z_okP pc q.2) && (ps.toList.zip (ps.toList.drop 1)).all (fun (a, next) => a.1 < next.1)
  | _ => true
def z_isSw : Instr → Bool
  | .tableswitch _ _ _ _ => true
  | .lookupswitch _ _ => true
  | _ => false
/-- a throw: its five instructions -/
noncomputable def z_okT (cc : ByteArray) (own : String) (pc len : Nat) (ops : List Nat) : Bool := match ops with
  | [e, ik, isx, ic, w, ti, _] => Nat.blt e 2 && decide (own = "SlipRoom") && z_dec cc pc (.new ik) 3 && z_dec cc (pc + 3) .dup 1 && z_inT (.classLink own ik (z_en e)) ti && z_msgs.any (fun q => Nat.beq q.1 isx) && Nat.beq ic (cond (Nat.beq e 0) 153 91) &&
      (cond (Nat.beq w 0) (Nat.beq len 10 && z_dec cc (pc + 4) (.ldc isx) 2 && z_dec cc (pc + 6) (.invokespecial ic) 3 && z_dec cc (pc + 9) .athrow 1) (Nat.beq len 11 && z_dec cc (pc + 4) (.ldc_w isx) 3 && z_dec cc (pc + 7) (.invokespecial ic) 3 && z_dec cc (pc + 10) .athrow 1))
  | _ => false
noncomputable def z_okE (cc : ByteArray) (own : String) (pc : Nat) (x : z_I) : Bool := match x.1 with
  | .athrow => z_okT cc own pc x.2.1 x.2.2
  | i => z_dec cc pc i x.2.1 && (z_isSw i || Nat.beq x.2.1 (z_il i)) && z_okJ pc i && z_okO own i x.2.2
noncomputable def z_okL (cc : ByteArray) (own : String) : Nat → List z_I → Bool
  | _, [] => true
  | pc, x :: is => z_okE cc own pc x && z_okL cc own (pc + x.2.1) is
noncomputable def z_okB (cc : ByteArray) (own : String) (b : z_B) : Bool := b.all (fun q => z_okL cc own q.1 q.2.2)
/-- a method's own words -/
noncomputable def z_okM (m : Nat) : Bool := z_inT (.initialized (z_m m).1.cls) (z_mi.getD m (0, 0, 0, 0, 0)).2.2.2.1 && (plainName (z_m m).1.cls || Nat.beq m 187 || Nat.beq m 188) && decide ((z_m m).1.cls ≠ "java/lang/invoke/MethodHandle" ∧ (z_m m).1.cls ≠ "java/lang/invoke/VarHandle") && decide ((parseMethodDescriptor (z_m m).1.desc).map (fun d => d.parameters.length) = some (z_mi.getD m (0, 0, 0, 0, 0)).2.2.2.2) && decide ((z_m m).2.2.1 ≤ 30) && decide ((z_m m).1.cls = z_own.getD (z_m m).2.2.2.2.1 "")
theorem z_okB_of {cc : ByteArray} {own : String} {b : z_B} (k n : Nat) (hk : 0 < k) (hn : b.length ≤ k * n) (h : ∀ i, i < n → z_okB cc own ((b.drop (k * i)).take k) = true) : z_okB cc own b = true := by
  unfold z_okB
  rw [List.all_eq_true]
  intro q hq
  obtain ⟨j, hj⟩ := List.getElem?_of_mem hq
  have hjl : j < b.length := (List.getElem?_eq_some_iff.mp hj).1
  have hdm := Nat.div_add_mod j k
  have hml := Nat.mod_lt j hk
  have hi : j / k < n := by
    apply Nat.div_lt_of_lt_mul
    omega
  have h1 := h (j / k) hi
  unfold z_okB at h1
  rw [List.all_eq_true] at h1
  apply h1
  apply List.mem_of_getElem? (i := j % k)
  rw [List.getElem?_take, if_pos hml, List.getElem?_drop, hdm]
  exact hj
