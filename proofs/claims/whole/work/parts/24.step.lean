/-! one instruction: what the abstract machine does there, the machine does -/
section ZS
variable {p : Program} {l : Launch} {e : Env} {R : Room} {s : State} {m : MethodId} {args : Array Value} {below : List Frame} {meth : Method} {c : Code} {Q : State → Prop} {B : Nat} {D : va_G} {ρ : Nat → Nat} {cA : Nat → ClassId} {nL : Nat}
variable {cc : ByteArray} {pc z len : Nat} {L : z_Lo} {st r : List Value} {S : z_St} {own : String} {dd n9 : Nat} {xs : Nat → Int32} {vb : Option Nat} {lm : Bool} {rt : Option FieldType} {hd0 : List (Nat × Int32)} {E : z_Ev} {K go : z_K} {out : z_Out × z_St}
/-- what holds around a body while it runs: its callees, its ends -/
def z_Rd (p : Program) (l : Launch) (e : Env) (R : Room) (s : State) (m : MethodId) (args : Array Value) (below : List Frame) (meth : Method) (c : Code) (Q : State → Prop) (B : Nat) (D : va_G) (ρ : Nat → Nat) (cA : Nat → ClassId) (nL : Nat) (cc : ByteArray) (own : String) (dd n9 : Nat) (xs : Nat → Int32) (vb : Option Nat) (lm : Bool) (rt : Option FieldType) (hd0 : List (Nat × Int32)) (E : z_Ev) (out : z_Out × z_St) : Prop :=
  (lm = true → 100001 ≤ R.cells ∧ 600006 ≤ R.slots) ∧ z_SX lm n9 xs B ρ s ∧
  (∀ m' as S o S1, m' < 211 → m' ≠ 187 → m' ≠ 188 → (z_isw m' = true → ∃ v, o = .inl v) → E m' as S = some (o, S1) → z_C l B D ρ cA dd m' as S o S1) ∧
  (∀ as S o S1, as.length = 2 → E 187 as S = some (o, S1) → ∃ x y, as = [.int x, .int y] ∧ o = .inl (some (.int (if x < y then y else x))) ∧ S1 = S) ∧
  (∀ as S o S1, as.length = 2 → E 188 as S = some (o, S1) → ∃ x y, as = [.int x, .int y] ∧ o = .inl (some (.int (if y < x then y else x))) ∧ S1 = S) ∧
  (∀ m' as S o S1, m' < 211 → E m' as S = some (o, S1) → z_fr S S1) ∧
  (lm = false → ∀ pc L, (∀ b, vb = some b → pc < b) → z_Xo p l e R s m args below meth c Q B D ρ cA nL hd0 out pc L) ∧
  (∀ pc ix, decode cc pc = .ok (.invokevirtual ix, 3) → (Cond.methodLink own ix z_sLen ∈ z_tb → z_So1 p l e R s m args below meth c Q B D ρ cA nL pc) ∧ (Cond.methodLink own ix z_sCh ∈ z_tb → z_So2 p l e R s m args below meth c Q B D ρ cA nL pc)) ∧
  (∀ pc z L S x, z_zk lm z → decode cc pc = .ok (.ireturn, 1) → z_rb rt x = true → out = (.inl (some (.int x)), S) → z_J p l e R s m args below meth c Q B D ρ cA nL pc z L [.int x] S) ∧
  (lm = false → ∀ pc L S x, decode cc pc = .ok (.areturn, 1) → z_rf rt = true → out = (.inl (some (.ref x)), S) → z_J p l e R s m args below meth c Q B D ρ cA nL pc 0 L [.ref x] S) ∧
  (lm = false → ∀ pc L S, decode cc pc = .ok (.return_, 1) → rt = none → out = (.inl none, S) → z_J p l e R s m args below meth c Q B D ρ cA nL pc 0 L [] S) ∧
  (lm = false → ∀ pc len ee ops L S, z_okT cc own pc len (ee :: ops) = true → out = (.inr ee, S) → z_J p l e R s m args below meth c Q B D ρ cA nL pc 0 L [] S)
theorem z_st_ok {i : Instr} {ops : List Nat} (hctx : z_Ctx p l R s m args c B D ρ cA nL cc own dd) (hRd : z_Rd p l e R s m args below meth c Q B D ρ cA nL cc own dd n9 xs vb lm rt hd0 E out) (hE : z_okE cc own pc (i, len, ops) = true) (hxe : z_xE own vb rt pc (i, len, ops) = true) (hzk : z_zk lm z) (hsc : z_sc lm n9 xs S)
    (h : z_st lm rt hd0 E K go i ops pc z L st S = some out)
    (hgo : ∀ z' L' st' S', z_zk lm z' → z_sc lm n9 xs S' → go (pc + len) z' L' st' S' = some out → z_J p l e R s m args below meth c Q B D ρ cA nL (pc + len) z' L' st' S')
    (hK : ∀ t z' L' st' S', z_zk lm z' → z_sc lm n9 xs S' → K t z' L' st' S' = some out → z_J p l e R s m args below meth c Q B D ρ cA nL t z' L' st' S') : z_J p l e R s m args below meth c Q B D ρ cA nL pc z L st S := by
  obtain ⟨hRl, hSX, hC, hM7, hM8, hF, hX, hS, hRi, hRa, hRv, hTh⟩ := hRd
  obtain ⟨hx, hb, hml, hown, hts, hEE, hAp, hRf, hRl9⟩ := id hctx
  have hKK := hEE.1
  cases i with
  | iconst n =>
    obtain ⟨hd, hl, hj, ho⟩ := z_okE_ok hE (by intro q; cases q)
    obtain rfl : len = 1 := Nat.eq_of_beq_eq_true hl
    change z_o_iconst go n pc z L st S = some out at h
    exact zj_iconst hx hb hd (of_decide_eq_true ho) (hgo _ _ _ _ hzk hsc h)
  | bipush n =>
    obtain ⟨hd, hl, hj, ho⟩ := z_okE_ok hE (by intro q; cases q)
    obtain rfl : len = 2 := Nat.eq_of_beq_eq_true hl
    change z_o_bipush go n pc z L st S = some out at h
    exact zj_bipush hx hb hd (of_decide_eq_true ho) (hgo _ _ _ _ hzk hsc h)
  | sipush n =>
    obtain ⟨hd, hl, hj, ho⟩ := z_okE_ok hE (by intro q; cases q)
    obtain rfl : len = 3 := Nat.eq_of_beq_eq_true hl
    change z_o_sipush go n pc z L st S = some out at h
    exact zj_sipush hx hb hd (of_decide_eq_true ho) (hgo _ _ _ _ hzk hsc h)
  | lconst n =>
    obtain ⟨hd, hl, hj, ho⟩ := z_okE_ok hE (by intro q; cases q)
    obtain rfl : len = 1 := Nat.eq_of_beq_eq_true hl
    change z_o_lconst go n pc z L st S = some out at h
    exact zj_lconst hx hb hd (hgo _ _ _ _ hzk hsc h)
  | aload_n k =>
    obtain ⟨hd, hl, hj, ho⟩ := z_okE_ok hE (by intro q; cases q)
    obtain rfl : len = 1 := Nat.eq_of_beq_eq_true hl
    change z_o_aload_n go k pc z L st S = some out at h
    unfold z_o_aload_n at h
    split at h
    · rename_i hg
      exact zj_aload_n hx hb hd hg (hgo _ _ _ _ hzk hsc h)
    · cases h
  | aload k =>
    obtain ⟨hd, hl, hj, ho⟩ := z_okE_ok hE (by intro q; cases q)
    obtain rfl : len = 2 := Nat.eq_of_beq_eq_true hl
    change z_o_aload go k pc z L st S = some out at h
    unfold z_o_aload at h
    split at h
    · rename_i hg
      exact zj_aload hx hb hd hg (hgo _ _ _ _ hzk hsc h)
    · cases h
  | iload_n k =>
    obtain ⟨hd, hl, hj, ho⟩ := z_okE_ok hE (by intro q; cases q)
    obtain rfl : len = 1 := Nat.eq_of_beq_eq_true hl
    change z_o_iload_n go k pc z L st S = some out at h
    unfold z_o_iload_n at h
    split at h
    · rename_i hg
      exact zj_iload_n hx hb hd hg (hgo _ _ _ _ hzk hsc h)
    · cases h
  | iload k =>
    obtain ⟨hd, hl, hj, ho⟩ := z_okE_ok hE (by intro q; cases q)
    obtain rfl : len = 2 := Nat.eq_of_beq_eq_true hl
    change z_o_iload go k pc z L st S = some out at h
    unfold z_o_iload at h
    split at h
    · rename_i hg
      exact zj_iload hx hb hd hg (hgo _ _ _ _ hzk hsc h)
    · cases h
  | lload_n k =>
    obtain ⟨hd, hl, hj, ho⟩ := z_okE_ok hE (by intro q; cases q)
    obtain rfl : len = 1 := Nat.eq_of_beq_eq_true hl
    change z_o_lload_n go k pc z L st S = some out at h
    unfold z_o_lload_n at h
    split at h
    · rename_i hg
      exact zj_lload_n hx hb hd hg (hgo _ _ _ _ hzk hsc h)
    · cases h
  | lload k =>
    obtain ⟨hd, hl, hj, ho⟩ := z_okE_ok hE (by intro q; cases q)
    obtain rfl : len = 2 := Nat.eq_of_beq_eq_true hl
    change z_o_lload go k pc z L st S = some out at h
    unfold z_o_lload at h
    split at h
    · rename_i hg
      exact zj_lload hx hb hd hg (hgo _ _ _ _ hzk hsc h)
    · cases h
  | istore_n k =>
    obtain ⟨hd, hl, hj, ho⟩ := z_okE_ok hE (by intro q; cases q)
    obtain rfl : len = 1 := Nat.eq_of_beq_eq_true hl
    change z_o_istore_n go k pc z L st S = some out at h
    unfold z_o_istore_n at h
    split at h
    · have hz9 := z_cnd h
      clear h
      obtain ⟨hk, h⟩ := hz9
      exact zj_istore_n hx hb hd (Nat.blt_eq.mp hk) (hgo _ _ _ _ hzk hsc h)
    · cases h
  | istore k =>
    obtain ⟨hd, hl, hj, ho⟩ := z_okE_ok hE (by intro q; cases q)
    obtain rfl : len = 2 := Nat.eq_of_beq_eq_true hl
    change z_o_istore go k pc z L st S = some out at h
    unfold z_o_istore at h
    split at h
    · have hz9 := z_cnd h
      clear h
      obtain ⟨hk, h⟩ := hz9
      exact zj_istore hx hb hd (Nat.blt_eq.mp hk) (hgo _ _ _ _ hzk hsc h)
    · cases h
  | astore_n k =>
    obtain ⟨hd, hl, hj, ho⟩ := z_okE_ok hE (by intro q; cases q)
    obtain rfl : len = 1 := Nat.eq_of_beq_eq_true hl
    change z_o_astore_n go k pc z L st S = some out at h
    unfold z_o_astore_n at h
    split at h
    · have hz9 := z_cnd h
      clear h
      obtain ⟨hk, h⟩ := hz9
      exact zj_astore_n hx hb hd (Nat.blt_eq.mp hk) (hgo _ _ _ _ hzk hsc h)
    · cases h
  | astore k =>
    obtain ⟨hd, hl, hj, ho⟩ := z_okE_ok hE (by intro q; cases q)
    obtain rfl : len = 2 := Nat.eq_of_beq_eq_true hl
    change z_o_astore go k pc z L st S = some out at h
    unfold z_o_astore at h
    split at h
    · have hz9 := z_cnd h
      clear h
      obtain ⟨hk, h⟩ := hz9
      exact zj_astore hx hb hd (Nat.blt_eq.mp hk) (hgo _ _ _ _ hzk hsc h)
    · cases h
  | lstore_n k =>
    obtain ⟨hd, hl, hj, ho⟩ := z_okE_ok hE (by intro q; cases q)
    obtain rfl : len = 1 := Nat.eq_of_beq_eq_true hl
    change z_o_lstore_n go k pc z L st S = some out at h
    unfold z_o_lstore_n at h
    split at h
    · have hz9 := z_cnd h
      clear h
      obtain ⟨hk, h⟩ := hz9
      exact zj_lstore_n hx hb hd (Nat.blt_eq.mp hk) (hgo _ _ _ _ hzk hsc h)
    · cases h
  | lstore k =>
    obtain ⟨hd, hl, hj, ho⟩ := z_okE_ok hE (by intro q; cases q)
    obtain rfl : len = 2 := Nat.eq_of_beq_eq_true hl
    change z_o_lstore go k pc z L st S = some out at h
    unfold z_o_lstore at h
    split at h
    · have hz9 := z_cnd h
      clear h
      obtain ⟨hk, h⟩ := hz9
      exact zj_lstore hx hb hd (Nat.blt_eq.mp hk) (hgo _ _ _ _ hzk hsc h)
    · cases h
  | iinc k n =>
    obtain ⟨hd, hl, hj, ho⟩ := z_okE_ok hE (by intro q; cases q)
    obtain rfl : len = 3 := Nat.eq_of_beq_eq_true hl
    change z_o_iinc go k n pc z L st S = some out at h
    unfold z_o_iinc at h
    split at h
    · rename_i hg
      have hz9 := z_cnd h
      clear h
      obtain ⟨hk, h⟩ := hz9
      exact zj_iinc hx hb hd (of_decide_eq_true ho) hg (hgo _ _ _ _ hzk hsc h)
    · cases h
  | iadd =>
    obtain ⟨hd, hl, hj, ho⟩ := z_okE_ok hE (by intro q; cases q)
    obtain rfl : len = 1 := Nat.eq_of_beq_eq_true hl
    change z_o_iadd go pc z L st S = some out at h
    unfold z_o_iadd at h
    split at h
    · exact zj_iadd hx hb hd (hgo _ _ _ _ hzk hsc h)
    · cases h
  | isub =>
    obtain ⟨hd, hl, hj, ho⟩ := z_okE_ok hE (by intro q; cases q)
    obtain rfl : len = 1 := Nat.eq_of_beq_eq_true hl
    change z_o_isub go pc z L st S = some out at h
    unfold z_o_isub at h
    split at h
    · exact zj_isub hx hb hd (hgo _ _ _ _ hzk hsc h)
    · cases h
  | imul =>
    obtain ⟨hd, hl, hj, ho⟩ := z_okE_ok hE (by intro q; cases q)
    obtain rfl : len = 1 := Nat.eq_of_beq_eq_true hl
    change z_o_imul go pc z L st S = some out at h
    unfold z_o_imul at h
    split at h
    · exact zj_imul hx hb hd (hgo _ _ _ _ hzk hsc h)
    · cases h
  | iand =>
    obtain ⟨hd, hl, hj, ho⟩ := z_okE_ok hE (by intro q; cases q)
    obtain rfl : len = 1 := Nat.eq_of_beq_eq_true hl
    change z_o_iand go pc z L st S = some out at h
    unfold z_o_iand at h
    split at h
    · exact zj_iand hx hb hd (hgo _ _ _ _ hzk hsc h)
    · cases h
  | ior =>
    obtain ⟨hd, hl, hj, ho⟩ := z_okE_ok hE (by intro q; cases q)
    obtain rfl : len = 1 := Nat.eq_of_beq_eq_true hl
    change z_o_ior go pc z L st S = some out at h
    unfold z_o_ior at h
    split at h
    · exact zj_ior hx hb hd (hgo _ _ _ _ hzk hsc h)
    · cases h
  | ixor =>
    obtain ⟨hd, hl, hj, ho⟩ := z_okE_ok hE (by intro q; cases q)
    obtain rfl : len = 1 := Nat.eq_of_beq_eq_true hl
    change z_o_ixor go pc z L st S = some out at h
    unfold z_o_ixor at h
    split at h
    · exact zj_ixor hx hb hd (hgo _ _ _ _ hzk hsc h)
    · cases h
  | ishl =>
    obtain ⟨hd, hl, hj, ho⟩ := z_okE_ok hE (by intro q; cases q)
    obtain rfl : len = 1 := Nat.eq_of_beq_eq_true hl
    change z_o_ishl go pc z L st S = some out at h
    unfold z_o_ishl at h
    split at h
    · exact zj_ishl hx hb hd (hgo _ _ _ _ hzk hsc h)
    · cases h
  | ishr =>
    obtain ⟨hd, hl, hj, ho⟩ := z_okE_ok hE (by intro q; cases q)
    obtain rfl : len = 1 := Nat.eq_of_beq_eq_true hl
    change z_o_ishr go pc z L st S = some out at h
    unfold z_o_ishr at h
    split at h
    · exact zj_ishr hx hb hd (hgo _ _ _ _ hzk hsc h)
    · cases h
  | iushr =>
    obtain ⟨hd, hl, hj, ho⟩ := z_okE_ok hE (by intro q; cases q)
    obtain rfl : len = 1 := Nat.eq_of_beq_eq_true hl
    change z_o_iushr go pc z L st S = some out at h
    unfold z_o_iushr at h
    split at h
    · exact zj_iushr hx hb hd (hgo _ _ _ _ hzk hsc h)
    · cases h
  | ineg =>
    obtain ⟨hd, hl, hj, ho⟩ := z_okE_ok hE (by intro q; cases q)
    obtain rfl : len = 1 := Nat.eq_of_beq_eq_true hl
    change z_o_ineg go pc z L st S = some out at h
    unfold z_o_ineg at h
    split at h
    · exact zj_ineg hx hb hd (hgo _ _ _ _ hzk hsc h)
    · cases h
  | ladd =>
    obtain ⟨hd, hl, hj, ho⟩ := z_okE_ok hE (by intro q; cases q)
    obtain rfl : len = 1 := Nat.eq_of_beq_eq_true hl
    change z_o_ladd go pc z L st S = some out at h
    unfold z_o_ladd at h
    split at h
    · exact zj_ladd hx hb hd (hgo _ _ _ _ hzk hsc h)
    · cases h
  | lsub =>
    obtain ⟨hd, hl, hj, ho⟩ := z_okE_ok hE (by intro q; cases q)
    obtain rfl : len = 1 := Nat.eq_of_beq_eq_true hl
    change z_o_lsub go pc z L st S = some out at h
    unfold z_o_lsub at h
    split at h
    · exact zj_lsub hx hb hd (hgo _ _ _ _ hzk hsc h)
    · cases h
  | land =>
    obtain ⟨hd, hl, hj, ho⟩ := z_okE_ok hE (by intro q; cases q)
    obtain rfl : len = 1 := Nat.eq_of_beq_eq_true hl
    change z_o_land go pc z L st S = some out at h
    unfold z_o_land at h
    split at h
    · exact zj_land hx hb hd (hgo _ _ _ _ hzk hsc h)
    · cases h
  | lor =>
    obtain ⟨hd, hl, hj, ho⟩ := z_okE_ok hE (by intro q; cases q)
    obtain rfl : len = 1 := Nat.eq_of_beq_eq_true hl
    change z_o_lor go pc z L st S = some out at h
    unfold z_o_lor at h
    split at h
    · exact zj_lor hx hb hd (hgo _ _ _ _ hzk hsc h)
    · cases h
  | lshl =>
    obtain ⟨hd, hl, hj, ho⟩ := z_okE_ok hE (by intro q; cases q)
    obtain rfl : len = 1 := Nat.eq_of_beq_eq_true hl
    change z_o_lshl go pc z L st S = some out at h
    unfold z_o_lshl at h
    split at h
    · exact zj_lshl hx hb hd (hgo _ _ _ _ hzk hsc h)
    · cases h
  | lushr =>
    obtain ⟨hd, hl, hj, ho⟩ := z_okE_ok hE (by intro q; cases q)
    obtain rfl : len = 1 := Nat.eq_of_beq_eq_true hl
    change z_o_lushr go pc z L st S = some out at h
    unfold z_o_lushr at h
    split at h
    · exact zj_lushr hx hb hd (hgo _ _ _ _ hzk hsc h)
    · cases h
  | lcmp =>
    obtain ⟨hd, hl, hj, ho⟩ := z_okE_ok hE (by intro q; cases q)
    obtain rfl : len = 1 := Nat.eq_of_beq_eq_true hl
    change z_o_lcmp go pc z L st S = some out at h
    unfold z_o_lcmp at h
    split at h
    · exact zj_lcmp hx hb hd (hgo _ _ _ _ hzk hsc h)
    · cases h
  | i2l =>
    obtain ⟨hd, hl, hj, ho⟩ := z_okE_ok hE (by intro q; cases q)
    obtain rfl : len = 1 := Nat.eq_of_beq_eq_true hl
    change z_o_i2l go pc z L st S = some out at h
    unfold z_o_i2l at h
    split at h
    · exact zj_i2l hx hb hd (hgo _ _ _ _ hzk hsc h)
    · cases h
  | l2i =>
    obtain ⟨hd, hl, hj, ho⟩ := z_okE_ok hE (by intro q; cases q)
    obtain rfl : len = 1 := Nat.eq_of_beq_eq_true hl
    change z_o_l2i go pc z L st S = some out at h
    unfold z_o_l2i at h
    split at h
    · exact zj_l2i hx hb hd (hgo _ _ _ _ hzk hsc h)
    · cases h
  | i2b =>
    obtain ⟨hd, hl, hj, ho⟩ := z_okE_ok hE (by intro q; cases q)
    obtain rfl : len = 1 := Nat.eq_of_beq_eq_true hl
    change z_o_i2b go pc z L st S = some out at h
    unfold z_o_i2b at h
    split at h
    · exact zj_i2b hx hb hd (hgo _ _ _ _ hzk hsc h)
    · cases h
  | idiv =>
    obtain ⟨hd, hl, hj, ho⟩ := z_okE_ok hE (by intro q; cases q)
    obtain rfl : len = 1 := Nat.eq_of_beq_eq_true hl
    change z_o_idiv go pc z L st S = some out at h
    unfold z_o_idiv at h
    split at h
    · split at h
      · cases h
      · rename_i hy
        exact zj_idiv hx hb hd hy (hgo _ _ _ _ hzk hsc h)
    · cases h
  | irem =>
    obtain ⟨hd, hl, hj, ho⟩ := z_okE_ok hE (by intro q; cases q)
    obtain rfl : len = 1 := Nat.eq_of_beq_eq_true hl
    change z_o_irem go pc z L st S = some out at h
    unfold z_o_irem at h
    split at h
    · split at h
      · cases h
      · rename_i hy
        exact zj_irem hx hb hd hy (hgo _ _ _ _ hzk hsc h)
    · cases h
  | dup =>
    obtain ⟨hd, hl, hj, ho⟩ := z_okE_ok hE (by intro q; cases q)
    obtain rfl : len = 1 := Nat.eq_of_beq_eq_true hl
    change z_o_dup go pc z L st S = some out at h
    unfold z_o_dup at h
    split at h
    · exact zj_dup hx hb hd rfl (hgo _ _ _ _ hzk hsc h)
    · exact zj_dup hx hb hd rfl (hgo _ _ _ _ hzk hsc h)
    · cases h
  | dup2 =>
    obtain ⟨hd, hl, hj, ho⟩ := z_okE_ok hE (by intro q; cases q)
    obtain rfl : len = 1 := Nat.eq_of_beq_eq_true hl
    change z_o_dup2 go pc z L st S = some out at h
    unfold z_o_dup2 at h
    split at h
    · exact zj_dup2 hx hb hd rfl rfl (hgo _ _ _ _ hzk hsc h)
    · cases h
  | getfield ix =>
    obtain ⟨hd, hl, hj, ho⟩ := z_okE_ok hE (by intro q; cases q)
    obtain rfl : len = 3 := Nat.eq_of_beq_eq_true hl
    change z_o_getfield ops go pc z L st S = some out at h
    exact zm_get (len := 0) hctx hd ho h (fun st' h' => hgo _ _ _ _ hzk hsc h')
  | putfield ix =>
    obtain ⟨hd, hl, hj, ho⟩ := z_okE_ok hE (by intro q; cases q)
    obtain rfl : len = 3 := Nat.eq_of_beq_eq_true hl
    change z_o_putfield ops go pc z L st S = some out at h
    exact zm_put hctx hd ho h (fun st' a k x ha h' => hgo _ _ _ _ hzk (hsc.fr (z_fr_w1 ha)) h')
  | getstatic ix =>
    obtain ⟨hd, hl, hj, ho⟩ := z_okE_ok hE (by intro q; cases q)
    obtain rfl : len = 3 := Nat.eq_of_beq_eq_true hl
    change z_o_getstatic ops go pc z L st S = some out at h
    exact zm_gs hctx hd ho h (fun st' h' => hgo _ _ _ _ hzk hsc h')
  | ldc ix =>
    obtain ⟨hd, hl, hj, ho⟩ := z_okE_ok hE (by intro q; cases q)
    obtain rfl : len = 2 := Nat.eq_of_beq_eq_true hl
    change z_o_ldc ops go pc z L st S = some out at h
    exact zm_ldc hctx hd ho h (fun st' h' => hgo _ _ _ _ hzk hsc h')
  | ldc_w ix =>
    obtain ⟨hd, hl, hj, ho⟩ := z_okE_ok hE (by intro q; cases q)
    obtain rfl : len = 3 := Nat.eq_of_beq_eq_true hl
    change z_o_ldc_w ops go pc z L st S = some out at h
    exact zm_ldcw hctx hd ho h (fun st' h' => hgo _ _ _ _ hzk hsc h')
  | ldc2_w ix =>
    obtain ⟨hd, hl, hj, ho⟩ := z_okE_ok hE (by intro q; cases q)
    obtain rfl : len = 3 := Nat.eq_of_beq_eq_true hl
    change z_o_ldc2_w ops go pc z L st S = some out at h
    exact zm_ldc2 hctx hd ho h (fun st' h' => hgo _ _ _ _ hzk hsc h')
  | iaload =>
    obtain ⟨hd, hl, hj, ho⟩ := z_okE_ok hE (by intro q; cases q)
    obtain rfl : len = 1 := Nat.eq_of_beq_eq_true hl
    change z_o_iaload lm go pc z L st S = some out at h
    exact zm_iald hctx hd hsc hSX h (fun st' h' => hgo _ _ _ _ hzk hsc h')
  | baload =>
    obtain ⟨hd, hl, hj, ho⟩ := z_okE_ok hE (by intro q; cases q)
    obtain rfl : len = 1 := Nat.eq_of_beq_eq_true hl
    change z_o_baload go pc z L st S = some out at h
    unfold z_o_baload at h
    split at h
    · have hz9 := z_cnd h
      clear h
      obtain ⟨hk, h⟩ := hz9
      simp only [Bool.and_eq_true, Bool.or_eq_true] at hk
      rcases hk with ⟨hk | hk, hi⟩
      · exact zj_ba2 hx hb hKK hd (Nat.eq_of_beq_eq_true hk) hi (hgo _ _ _ _ hzk hsc h)
      · exact zj_ba3 hx hb hKK hd (Nat.eq_of_beq_eq_true hk) hi (hgo _ _ _ _ hzk hsc h)
    · cases h
  | laload =>
    obtain ⟨hd, hl, hj, ho⟩ := z_okE_ok hE (by intro q; cases q)
    obtain rfl : len = 1 := Nat.eq_of_beq_eq_true hl
    change z_o_laload go pc z L st S = some out at h
    unfold z_o_laload at h
    split at h
    · have hz9 := z_cnd h
      clear h
      obtain ⟨hk, h⟩ := hz9
      simp only [Bool.and_eq_true] at hk
      exact zj_la hx hb hKK hd (Nat.eq_of_beq_eq_true hk.1) hk.2 (hgo _ _ _ _ hzk hsc h)
    · cases h
  | iastore =>
    obtain ⟨hd, hl, hj, ho⟩ := z_okE_ok hE (by intro q; cases q)
    obtain rfl : len = 1 := Nat.eq_of_beq_eq_true hl
    change z_o_iastore go pc z L st S = some out at h
    unfold z_o_iastore at h
    split at h
    · have hz9 := z_cnd h
      clear h
      obtain ⟨hk, h⟩ := hz9
      simp only [Bool.and_eq_true] at hk
      exact zj_ias hx hb hKK hAp hd (Nat.eq_of_beq_eq_true hk.1) hk.2 (hgo _ _ _ _ hzk (hsc.fr (z_fr_w1 (z_at_lt (by rw [Nat.eq_of_beq_eq_true hk.1]; decide)))) h)
    · cases h
  | lastore =>
    obtain ⟨hd, hl, hj, ho⟩ := z_okE_ok hE (by intro q; cases q)
    obtain rfl : len = 1 := Nat.eq_of_beq_eq_true hl
    change z_o_lastore go pc z L st S = some out at h
    unfold z_o_lastore at h
    split at h
    · have hz9 := z_cnd h
      clear h
      obtain ⟨hk, h⟩ := hz9
      simp only [Bool.and_eq_true] at hk
      exact zj_las hx hb hKK hAp hd (Nat.eq_of_beq_eq_true hk.1) hk.2 (hgo _ _ _ _ hzk (hsc.fr (fun _ _ => rfl)) h)
    · cases h
  | bastore =>
    obtain ⟨hd, hl, hj, ho⟩ := z_okE_ok hE (by intro q; cases q)
    obtain rfl : len = 1 := Nat.eq_of_beq_eq_true hl
    change z_o_bastore go pc z L st S = some out at h
    unfold z_o_bastore at h
    split at h
    · have hz9 := z_cnd h
      clear h
      obtain ⟨hk, h⟩ := hz9
      split at h
      · rename_i ht
        exact zj_bas2 hx hb hKK hAp hd ht hk (hgo _ _ _ _ hzk (hsc.fr (z_fr_w1 (z_at_lt (by rw [ht]; decide)))) h)
      · rename_i ht
        exact zj_bas3 hx hb hKK hAp hd ht hk (hgo _ _ _ _ hzk (hsc.fr (z_fr_w1 (z_at_lt (by rw [ht]; decide)))) h)
      · cases h
    · cases h
  | aaload =>
    obtain ⟨hd, hl, hj, ho⟩ := z_okE_ok hE (by intro q; cases q)
    obtain rfl : len = 1 := Nat.eq_of_beq_eq_true hl
    change z_o_aaload go pc z L st S = some out at h
    unfold z_o_aaload at h
    split at h
    · rename_i x a r0
      cases ha : Nat.beq a 1100 with
      | true =>
        rw [ha] at h
        obtain rfl := Nat.eq_of_beq_eq_true ha
        have hz9 := z_cnd (show cond (z_ix x 17) (go (pc + 1) z L (.ref (1000 + x.toNatClampNeg) :: r0) S) none = some out from h)
        clear h
        obtain ⟨hi, h⟩ := hz9
        exact zj_aaA hx hb hEE.2.2.1.2.2.2.2.1 hd hi (hgo _ _ _ _ hzk hsc h)
      | false =>
        rw [ha] at h
        have hz9 := z_cnd (show cond (Nat.beq (z_at a) 5 && z_ix x (z_ln a)) (go (pc + 1) z L (.ref (z_vs.getD x.toNatClampNeg 0) :: r0) S) none = some out from h)
        clear h
        obtain ⟨hk, h⟩ := hz9
        simp only [Bool.and_eq_true] at hk
        exact zj_aa hx hb hKK hd (Nat.eq_of_beq_eq_true hk.1) hk.2 (hgo _ _ _ _ hzk hsc h)
    · cases h
  | arraylength =>
    obtain ⟨hd, hl, hj, ho⟩ := z_okE_ok hE (by intro q; cases q)
    obtain rfl : len = 1 := Nat.eq_of_beq_eq_true hl
    change z_o_arraylength lm go pc z L st S = some out at h
    exact zm_alen hctx hd hsc hSX h (fun st' h' => hgo _ _ _ _ hzk hsc h')
  | ifCond c9 off =>
    obtain ⟨hd, hl, hj, ho⟩ := z_okE_ok hE (by intro q; cases q)
    obtain rfl : len = 3 := Nat.eq_of_beq_eq_true hl
    change z_o_ifCond K go c9 off pc z L st S = some out at h
    unfold z_o_ifCond at h
    split at h
    · cases c9 with
      | eq => dsimp only at h; exact zj_if_eq hx hb hd (z_okP_ok hj) (fun q => by rw [if_pos q] at h; exact hK _ _ _ _ _ hzk hsc h) (fun q => by rw [if_neg q] at h; exact hgo _ _ _ _ hzk hsc h)
      | ne => dsimp only at h; exact zj_if_ne hx hb hd (z_okP_ok hj) (fun q => by rw [if_neg q] at h; exact hK _ _ _ _ _ hzk hsc h) (fun q => by rw [if_pos q] at h; exact hgo _ _ _ _ hzk hsc h)
      | lt => dsimp only at h; exact zj_if_lt hx hb hd (z_okP_ok hj) (fun q => by rw [if_pos q] at h; exact hK _ _ _ _ _ hzk hsc h) (fun q => by rw [if_neg q] at h; exact hgo _ _ _ _ hzk hsc h)
      | ge => dsimp only at h; exact zj_if_ge hx hb hd (z_okP_ok hj) (fun q => by rw [if_pos q] at h; exact hK _ _ _ _ _ hzk hsc h) (fun q => by rw [if_neg q] at h; exact hgo _ _ _ _ hzk hsc h)
      | gt => dsimp only at h; exact zj_if_gt hx hb hd (z_okP_ok hj) (fun q => by rw [if_pos q] at h; exact hK _ _ _ _ _ hzk hsc h) (fun q => by rw [if_neg q] at h; exact hgo _ _ _ _ hzk hsc h)
      | le => dsimp only at h; exact zj_if_le hx hb hd (z_okP_ok hj) (fun q => by rw [if_pos q] at h; exact hK _ _ _ _ _ hzk hsc h) (fun q => by rw [if_neg q] at h; exact hgo _ _ _ _ hzk hsc h)
    · cases h
  | if_icmp c9 off =>
    obtain ⟨hd, hl, hj, ho⟩ := z_okE_ok hE (by intro q; cases q)
    obtain rfl : len = 3 := Nat.eq_of_beq_eq_true hl
    change z_o_if_icmp K go c9 off pc z L st S = some out at h
    unfold z_o_if_icmp at h
    split at h
    · cases c9 with
      | eq => dsimp only at h; exact zj_ic_eq hx hb hd (z_okP_ok hj) (fun q => by rw [if_pos q] at h; exact hK _ _ _ _ _ hzk hsc h) (fun q => by rw [if_neg q] at h; exact hgo _ _ _ _ hzk hsc h)
      | ne => dsimp only at h; exact zj_ic_ne hx hb hd (z_okP_ok hj) (fun q => by rw [if_neg q] at h; exact hK _ _ _ _ _ hzk hsc h) (fun q => by rw [if_pos q] at h; exact hgo _ _ _ _ hzk hsc h)
      | lt => dsimp only at h; exact zj_ic_lt hx hb hd (z_okP_ok hj) (fun q => by rw [if_pos q] at h; exact hK _ _ _ _ _ hzk hsc h) (fun q => by rw [if_neg q] at h; exact hgo _ _ _ _ hzk hsc h)
      | ge => dsimp only at h; exact zj_ic_ge hx hb hd (z_okP_ok hj) (fun q => by rw [if_pos q] at h; exact hK _ _ _ _ _ hzk hsc h) (fun q => by rw [if_neg q] at h; exact hgo _ _ _ _ hzk hsc h)
      | gt => dsimp only at h; exact zj_ic_gt hx hb hd (z_okP_ok hj) (fun q => by rw [if_pos q] at h; exact hK _ _ _ _ _ hzk hsc h) (fun q => by rw [if_neg q] at h; exact hgo _ _ _ _ hzk hsc h)
      | le => dsimp only at h; exact zj_ic_le hx hb hd (z_okP_ok hj) (fun q => by rw [if_pos q] at h; exact hK _ _ _ _ _ hzk hsc h) (fun q => by rw [if_neg q] at h; exact hgo _ _ _ _ hzk hsc h)
    · cases h
  | if_acmp c9 off =>
    obtain ⟨hd, hl, hj, ho⟩ := z_okE_ok hE (by intro q; cases q)
    obtain rfl : len = 3 := Nat.eq_of_beq_eq_true hl
    change z_o_if_acmp K go c9 off pc z L st S = some out at h
    unfold z_o_if_acmp at h
    split at h
    · rename_i y x r0
      have hz9 := z_cnd h
      clear h
      obtain ⟨hk, h⟩ := hz9
      simp only [Bool.and_eq_true] at hk
      have hin : ρ x = ρ y → x = y := z_wInj hEE hk.1.1.1 hk.1.1.2 hk.1.2 hk.2
      cases c9 with
      | eq => dsimp only at h; exact zj_ac_eq hx hb hin hd (z_okP_ok hj) (fun q => by rw [if_pos q] at h; exact hK _ _ _ _ _ hzk hsc h) (fun q => by rw [if_neg q] at h; exact hgo _ _ _ _ hzk hsc h)
      | ne => dsimp only at h; exact zj_ac_ne hx hb hin hd (z_okP_ok hj) (fun q => by rw [if_neg q] at h; exact hK _ _ _ _ _ hzk hsc h) (fun q => by rw [if_pos q] at h; exact hgo _ _ _ _ hzk hsc h)
    · cases h
  | goto off =>
    obtain ⟨hd, hl, hj, ho⟩ := z_okE_ok hE (by intro q; cases q)
    obtain rfl : len = 3 := Nat.eq_of_beq_eq_true hl
    change z_o_goto K off pc z L st S = some out at h
    exact zj_goto hx hb hd (z_okP_ok hj) (hK _ _ _ _ _ hzk hsc h)
  | tableswitch d lo hi offs =>
    obtain ⟨hd, hl, hj, ho⟩ := z_okE_ok hE (by intro q; cases q)
    change z_o_tableswitch K d lo hi offs pc z L st S = some out at h
    exact zm_tsw hctx hd hj h (fun t st' h' => hK _ _ _ _ _ hzk hsc h')
  | lookupswitch d ps =>
    obtain ⟨hd, hl, hj, ho⟩ := z_okE_ok hE (by intro q; cases q)
    change z_o_lookupswitch K d ps pc z L st S = some out at h
    exact zm_lsw hctx hd hj h (fun t st' h' => hK _ _ _ _ _ hzk hsc h')
  | invokevirtual ix =>
    obtain ⟨hd, hl, hj, ho⟩ := z_okE_ok hE (by intro q; cases q)
    obtain rfl : len = 3 := Nat.eq_of_beq_eq_true hl
    change z_call lm hd0 E go ops pc z L st S = some out at h
    exact zm_callV hctx hd ho hzk h hRl (fun z' st' S' hz hf h' => hgo _ _ _ _ hz (hsc.fr hf) h') hC z_mst hF (fun q => hX q pc L (z_xE_v hxe)) (fun kind q => ⟨fun k => (hS pc ix hd).1 ((z_xE_s hxe kind q).1 k), fun k => (hS pc ix hd).2 ((z_xE_s hxe kind q).2 k)⟩)
  | invokestatic ix =>
    obtain ⟨hd, hl, hj, ho⟩ := z_okE_ok hE (by intro q; cases q)
    obtain rfl : len = 3 := Nat.eq_of_beq_eq_true hl
    change z_call lm hd0 E go ops pc z L st S = some out at h
    exact zm_callS hctx hd ho hzk h hRl (fun z' st' S' hz hf h' => hgo _ _ _ _ hz (hsc.fr hf) h') hC hM7 hM8 hF (fun q => hX q pc L (z_xE_w hxe))
  | ireturn =>
    obtain ⟨hd, hl, hj, ho⟩ := z_okE_ok hE (by intro q; cases q)
    obtain rfl : len = 1 := Nat.eq_of_beq_eq_true hl
    change z_o_ireturn rt pc z L st S = some out at h
    unfold z_o_ireturn at h
    split at h
    · have hz9 := z_cnd h
      clear h
      obtain ⟨hr, h⟩ := hz9
      exact hRi pc z L S _ hzk hd hr (Option.some.inj h).symm
    · cases h
  | areturn =>
    obtain ⟨hd, hl, hj, ho⟩ := z_okE_ok hE (by intro q; cases q)
    obtain rfl : len = 1 := Nat.eq_of_beq_eq_true hl
    change z_o_areturn lm pc z L st S = some out at h
    unfold z_o_areturn at h
    split at h
    · have hz9 := z_cnd h
      clear h
      obtain ⟨hr, h⟩ := hz9
      have hlm : lm = false := by cases lm; rfl; cases hr
      obtain rfl := hzk.1 hlm
      exact hRa hlm pc L S _ hd hxe (Option.some.inj h).symm
    · cases h
  | return_ =>
    obtain ⟨hd, hl, hj, ho⟩ := z_okE_ok hE (by intro q; cases q)
    obtain rfl : len = 1 := Nat.eq_of_beq_eq_true hl
    change z_o_return_ lm pc z L st S = some out at h
    unfold z_o_return_ at h
    split at h
    · have hz9 := z_cnd h
      clear h
      obtain ⟨hr, h⟩ := hz9
      have hlm : lm = false := by cases lm; rfl; cases hr
      obtain rfl := hzk.1 hlm
      exact hRv hlm pc L S hd (Option.isNone_iff_eq_none.mp hxe) (Option.some.inj h).symm
    · cases h
  | athrow =>
    change z_o_athrow lm ops pc z L st S = some out at h
    unfold z_o_athrow at h
    split at h
    · split at h
      · have hz9 := z_cnd2 h
        clear h
        obtain ⟨hlm, h⟩ := hz9
        obtain rfl := hzk.1 hlm
        exact hTh hlm pc len _ _ L S hE (Option.some.inj h).symm
      · cases h
    · cases h
  | _ => cases h
/-- a block -/
theorem z_ex_ok (hctx : z_Ctx p l R s m args c B D ρ cA nL cc own dd) (hRd : z_Rd p l e R s m args below meth c Q B D ρ cA nL cc own dd n9 xs vb lm rt hd0 E out)
    (hK : ∀ t z' L' st' S', z_zk lm z' → z_sc lm n9 xs S' → K t z' L' st' S' = some out → z_J p l e R s m args below meth c Q B D ρ cA nL t z' L' st' S') : ∀ (is : List z_I) (pc z : Nat) (L : z_Lo) (st : List Value) (S : z_St), z_okL cc own pc is = true → z_xL own vb rt pc is = true → z_zk lm z → z_sc lm n9 xs S → z_ex lm rt hd0 E K is pc z L st S = some out → z_J p l e R s m args below meth c Q B D ρ cA nL pc z L st S
  | [], pc, z, L, st, S, _, _, hzk, hsc, h => hK pc z L st S hzk hsc h
  | x :: is, pc, z, L, st, S, ho, hxl, hzk, hsc, h => by
    obtain ⟨i, len, ops⟩ := x
    have ho2 : (z_okE cc own pc (i, len, ops) && z_okL cc own (pc + len) is) = true := ho
    have hx2 : (z_xE own vb rt pc (i, len, ops) && z_xL own vb rt (pc + len) is) = true := hxl
    simp only [Bool.and_eq_true] at ho2 hx2
    exact z_st_ok hctx hRd ho2.1 hx2.1 hzk hsc h (fun z' L' st' S' h1 h2 h3 => z_ex_ok hctx hRd hK is (pc + len) z' L' st' S' ho2.2 hx2.2 h1 h2 h3) hK
/-- a method from one of its blocks on -/
theorem z_run_ok {b : z_B} (hctx : z_Ctx p l R s m args c B D ρ cA nL cc own dd) (hRd : z_Rd p l e R s m args below meth c Q B D ρ cA nL cc own dd n9 xs vb lm rt hd0 E out) (hob : z_okB cc own b = true) (hxb : z_xB own vb rt b = true) :
    ∀ (n pc z : Nat) (L : z_Lo) (st : List Value) (S : z_St), z_zk lm z → z_sc lm n9 xs S → z_run lm rt hd0 E b n pc z L st S = some out → z_J p l e R s m args below meth c Q B D ρ cA nL pc z L st S
  | 0, pc, z, L, st, S, _, _, h => by cases h
  | n + 1, pc, z, L, st, S, hzk, hsc, h => by
    unfold z_run at h
    split at h
    · rename_i q hq
      have hm := z_fnd_mem _ _ _ hq
      have h9 := z_ex_ok hctx hRd (fun t z' L' st' S' h1 h2 h3 => z_run_ok hctx hRd hob hxb n t z' L' st' S' h1 h2 h3) q.2 pc z (z_mk q.1 L) st S (List.all_eq_true.mp hob _ hm) (List.all_eq_true.mp hxb _ hm) hzk hsc h
      exact fun ls H locs hl hw => h9 ls H locs (z_lr_mk _ hl) hw
    · cases h
end ZS
