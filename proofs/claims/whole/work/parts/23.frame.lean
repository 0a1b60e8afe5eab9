/-! what a run leaves as it was: all that lies behind the program's own objects -/
section ZF
variable {cc : ByteArray} {pc z len : Nat} {L : z_Lo} {st : List Value} {S : z_St} {own : String} {lm : Bool} {rt : Option FieldType} {hd0 : List (Nat × Int32)} {E : z_Ev} {K go : z_K} {out : z_Out × z_St}
theorem z_fr_2 {S : z_St} (M : z_Ml) : z_fr S (S.1, M) := fun _ _ => rfl
theorem z_hnd_S {hd0 : List (Nat × Int32)} {ee : Nat} {S : z_St} {out : z_Out × z_St} (h : z_hnd hd0 ee S = some out) : out.2 = S := by
  unfold z_hnd at h
  split at h <;> (cases h; rfl)
theorem z_fr_cb {m' : Nat} {as rest : List Value} {rt0 : Nat} (h : z_cb lm hd0 E go m' rt0 pc z L as rest S = some out) (hm : m' < 211) (hgo : ∀ z' st' S', go (pc + 3) z' L st' S' = some out → z_fr S' out.2) (hF : ∀ m' as S o S1, m' < 211 → E m' as S = some (o, S1) → z_fr S S1) : z_fr S out.2 := by
  obtain ⟨o, S1, hE1, hres⟩ := z_cany h
  have h1 := hF m' as S o S1 hm hE1
  rcases hres with ⟨v, rfl, hg⟩ | ⟨ee, rfl, -, hg⟩
  · exact h1.tr (hgo _ _ _ hg)
  · rw [z_hnd_S hg]; exact h1
theorem z_fr_cv {ix : Nat} {ops : List Nat} (ho : z_okO own (.invokevirtual ix) ops = true) (h : z_call lm hd0 E go ops pc z L st S = some out) (hgo : ∀ z' st' S', go (pc + 3) z' L st' S' = some out → z_fr S' out.2) (hF : ∀ m' as S o S1, m' < 211 → E m' as S = some (o, S1) → z_fr S S1) : z_fr S out.2 := by
  obtain ⟨m', n, kind, rc, rt0, ti, rfl, hcase⟩ := z_okO_iv ho
  rcases hcase with rfl | rfl | ⟨hm, hn, hrc, hcl, hcl2, hiw, hk, hin, hse⟩
  · rw [z_call7] at h
    obtain ⟨as, rest, hst0, hlen, hr8, h⟩ := z_cB_ok h
    unfold z_k7 at h
    split at h
    · exact hgo _ _ _ (z_cnd h).2
    · cases h
  · rw [z_call8] at h
    obtain ⟨as, rest, hst0, hlen, hr8, h⟩ := z_cB_ok h
    unfold z_k8 at h
    split at h
    · exact hgo _ _ _ (z_cnd h).2
    · cases h
  · rcases hk with ⟨rfl, hl⟩ | ⟨rfl, hl⟩
    · rw [z_call2] at h
      obtain ⟨as, rest, hst0, hlen, hr8, h⟩ := z_cB_ok h
      exact z_fr_cb (z_cnd h).2 hm hgo hF
    · rw [z_call3] at h
      obtain ⟨as, rest, hst0, hlen, hr8, h⟩ := z_cB_ok h
      exact z_fr_cb (z_cnd h).2 hm hgo hF
theorem z_fr_cs {ix : Nat} {ops : List Nat} (ho : z_okO own (.invokestatic ix) ops = true) (h : z_call lm hd0 E go ops pc z L st S = some out) (hgo : ∀ z' st' S', go (pc + 3) z' L st' S' = some out → z_fr S' out.2) (hF : ∀ m' as S o S1, m' < 211 → E m' as S = some (o, S1) → z_fr S S1) : z_fr S out.2 := by
  obtain ⟨m', n, kind, rc, rt0, ti, rfl, hcase⟩ := z_okO_is ho
  rcases hcase with ⟨rfl, hl, -⟩ | ⟨hm, hn, hk, hs⟩
  · rw [z_call6] at h
    obtain ⟨as, rest, hst0, hlen, hr8, h⟩ := z_cB_ok h
    unfold z_k6 at h
    split at h
    · have hz9 := z_cnd h
      clear h
      obtain ⟨ha, h⟩ := hz9
      simp only [Bool.and_eq_true, Bool.not_eq_true', decide_eq_true_eq, decide_eq_false_iff_not] at ha
      have a1 := Nat.eq_of_beq_eq_true ha.1.1.1.1.1.1
      split at h
      · rename_i he
        exact (z_fr_c1 (z_at_lt (by rw [← a1, he]; decide))).tr (hgo _ _ _ h)
      · exact (z_fr_2 _).tr (hgo _ _ _ h)
      · cases h
    · cases h
  · rcases hk with ⟨rfl, hiw, hl⟩ | ⟨rfl, hiw, hl⟩ | ⟨rfl, hiw, hl⟩
    · rw [z_call0] at h
      obtain ⟨as, rest, hst0, hlen, hr8, h⟩ := z_cB_ok h
      exact z_fr_cb h hm hgo hF
    · rw [z_call1] at h
      obtain ⟨as, rest, hst0, hlen, hr8, h⟩ := z_cB_ok h
      exact z_fr_cb h hm hgo hF
    · rw [z_call4] at h
      obtain ⟨as, rest, hst0, hlen, hr8, h⟩ := z_cB_ok h
      rcases z_cli_ok (z_cnd h).2 with ⟨x, S1, h1, h2⟩ | ⟨ee, S1, h1, h2⟩
      · exact (hF _ _ _ _ _ hm h1).tr (hgo _ _ _ h2)
      · cases h2
theorem z_fr_st {i : Instr} {ops : List Nat} (hE : z_okE cc own pc (i, len, ops) = true) (h : z_st lm rt hd0 E K go i ops pc z L st S = some out)
    (hgo : ∀ z' L' st' S', go (pc + len) z' L' st' S' = some out → z_fr S' out.2) (hK : ∀ t z' L' st' S', K t z' L' st' S' = some out → z_fr S' out.2) (hF : ∀ m' as S o S1, m' < 211 → E m' as S = some (o, S1) → z_fr S S1) : z_fr S out.2 := by
  cases i with
  | iconst n =>
    obtain ⟨hd, hl, hj, ho⟩ := z_okE_ok hE (by intro q; cases q)
    obtain rfl : len = 1 := Nat.eq_of_beq_eq_true hl
    change z_o_iconst go n pc z L st S = some out at h
    unfold z_o_iconst at h
    repeat' split at h
    all_goals first | exact hgo _ _ _ _ h | exact hK _ _ _ _ _ h | (cases h; done) | exact hgo _ _ _ _ (z_cnd h).2
  | bipush n =>
    obtain ⟨hd, hl, hj, ho⟩ := z_okE_ok hE (by intro q; cases q)
    obtain rfl : len = 2 := Nat.eq_of_beq_eq_true hl
    change z_o_bipush go n pc z L st S = some out at h
    unfold z_o_bipush at h
    repeat' split at h
    all_goals first | exact hgo _ _ _ _ h | exact hK _ _ _ _ _ h | (cases h; done) | exact hgo _ _ _ _ (z_cnd h).2
  | sipush n =>
    obtain ⟨hd, hl, hj, ho⟩ := z_okE_ok hE (by intro q; cases q)
    obtain rfl : len = 3 := Nat.eq_of_beq_eq_true hl
    change z_o_sipush go n pc z L st S = some out at h
    unfold z_o_sipush at h
    repeat' split at h
    all_goals first | exact hgo _ _ _ _ h | exact hK _ _ _ _ _ h | (cases h; done) | exact hgo _ _ _ _ (z_cnd h).2
  | lconst n =>
    obtain ⟨hd, hl, hj, ho⟩ := z_okE_ok hE (by intro q; cases q)
    obtain rfl : len = 1 := Nat.eq_of_beq_eq_true hl
    change z_o_lconst go n pc z L st S = some out at h
    unfold z_o_lconst at h
    repeat' split at h
    all_goals first | exact hgo _ _ _ _ h | exact hK _ _ _ _ _ h | (cases h; done) | exact hgo _ _ _ _ (z_cnd h).2
  | aload_n k =>
    obtain ⟨hd, hl, hj, ho⟩ := z_okE_ok hE (by intro q; cases q)
    obtain rfl : len = 1 := Nat.eq_of_beq_eq_true hl
    change z_o_aload_n go k pc z L st S = some out at h
    unfold z_o_aload_n at h
    repeat' split at h
    all_goals first | exact hgo _ _ _ _ h | exact hK _ _ _ _ _ h | (cases h; done) | exact hgo _ _ _ _ (z_cnd h).2
  | aload k =>
    obtain ⟨hd, hl, hj, ho⟩ := z_okE_ok hE (by intro q; cases q)
    obtain rfl : len = 2 := Nat.eq_of_beq_eq_true hl
    change z_o_aload go k pc z L st S = some out at h
    unfold z_o_aload at h
    repeat' split at h
    all_goals first | exact hgo _ _ _ _ h | exact hK _ _ _ _ _ h | (cases h; done) | exact hgo _ _ _ _ (z_cnd h).2
  | iload_n k =>
    obtain ⟨hd, hl, hj, ho⟩ := z_okE_ok hE (by intro q; cases q)
    obtain rfl : len = 1 := Nat.eq_of_beq_eq_true hl
    change z_o_iload_n go k pc z L st S = some out at h
    unfold z_o_iload_n at h
    repeat' split at h
    all_goals first | exact hgo _ _ _ _ h | exact hK _ _ _ _ _ h | (cases h; done) | exact hgo _ _ _ _ (z_cnd h).2
  | iload k =>
    obtain ⟨hd, hl, hj, ho⟩ := z_okE_ok hE (by intro q; cases q)
    obtain rfl : len = 2 := Nat.eq_of_beq_eq_true hl
    change z_o_iload go k pc z L st S = some out at h
    unfold z_o_iload at h
    repeat' split at h
    all_goals first | exact hgo _ _ _ _ h | exact hK _ _ _ _ _ h | (cases h; done) | exact hgo _ _ _ _ (z_cnd h).2
  | lload_n k =>
    obtain ⟨hd, hl, hj, ho⟩ := z_okE_ok hE (by intro q; cases q)
    obtain rfl : len = 1 := Nat.eq_of_beq_eq_true hl
    change z_o_lload_n go k pc z L st S = some out at h
    unfold z_o_lload_n at h
    repeat' split at h
    all_goals first | exact hgo _ _ _ _ h | exact hK _ _ _ _ _ h | (cases h; done) | exact hgo _ _ _ _ (z_cnd h).2
  | lload k =>
    obtain ⟨hd, hl, hj, ho⟩ := z_okE_ok hE (by intro q; cases q)
    obtain rfl : len = 2 := Nat.eq_of_beq_eq_true hl
    change z_o_lload go k pc z L st S = some out at h
    unfold z_o_lload at h
    repeat' split at h
    all_goals first | exact hgo _ _ _ _ h | exact hK _ _ _ _ _ h | (cases h; done) | exact hgo _ _ _ _ (z_cnd h).2
  | istore_n k =>
    obtain ⟨hd, hl, hj, ho⟩ := z_okE_ok hE (by intro q; cases q)
    obtain rfl : len = 1 := Nat.eq_of_beq_eq_true hl
    change z_o_istore_n go k pc z L st S = some out at h
    unfold z_o_istore_n at h
    repeat' split at h
    all_goals first | exact hgo _ _ _ _ h | exact hK _ _ _ _ _ h | (cases h; done) | exact hgo _ _ _ _ (z_cnd h).2
  | istore k =>
    obtain ⟨hd, hl, hj, ho⟩ := z_okE_ok hE (by intro q; cases q)
    obtain rfl : len = 2 := Nat.eq_of_beq_eq_true hl
    change z_o_istore go k pc z L st S = some out at h
    unfold z_o_istore at h
    repeat' split at h
    all_goals first | exact hgo _ _ _ _ h | exact hK _ _ _ _ _ h | (cases h; done) | exact hgo _ _ _ _ (z_cnd h).2
  | astore_n k =>
    obtain ⟨hd, hl, hj, ho⟩ := z_okE_ok hE (by intro q; cases q)
    obtain rfl : len = 1 := Nat.eq_of_beq_eq_true hl
    change z_o_astore_n go k pc z L st S = some out at h
    unfold z_o_astore_n at h
    repeat' split at h
    all_goals first | exact hgo _ _ _ _ h | exact hK _ _ _ _ _ h | (cases h; done) | exact hgo _ _ _ _ (z_cnd h).2
  | astore k =>
    obtain ⟨hd, hl, hj, ho⟩ := z_okE_ok hE (by intro q; cases q)
    obtain rfl : len = 2 := Nat.eq_of_beq_eq_true hl
    change z_o_astore go k pc z L st S = some out at h
    unfold z_o_astore at h
    repeat' split at h
    all_goals first | exact hgo _ _ _ _ h | exact hK _ _ _ _ _ h | (cases h; done) | exact hgo _ _ _ _ (z_cnd h).2
  | lstore_n k =>
    obtain ⟨hd, hl, hj, ho⟩ := z_okE_ok hE (by intro q; cases q)
    obtain rfl : len = 1 := Nat.eq_of_beq_eq_true hl
    change z_o_lstore_n go k pc z L st S = some out at h
    unfold z_o_lstore_n at h
    repeat' split at h
    all_goals first | exact hgo _ _ _ _ h | exact hK _ _ _ _ _ h | (cases h; done) | exact hgo _ _ _ _ (z_cnd h).2
  | lstore k =>
    obtain ⟨hd, hl, hj, ho⟩ := z_okE_ok hE (by intro q; cases q)
    obtain rfl : len = 2 := Nat.eq_of_beq_eq_true hl
    change z_o_lstore go k pc z L st S = some out at h
    unfold z_o_lstore at h
    repeat' split at h
    all_goals first | exact hgo _ _ _ _ h | exact hK _ _ _ _ _ h | (cases h; done) | exact hgo _ _ _ _ (z_cnd h).2
  | iinc k n =>
    obtain ⟨hd, hl, hj, ho⟩ := z_okE_ok hE (by intro q; cases q)
    obtain rfl : len = 3 := Nat.eq_of_beq_eq_true hl
    change z_o_iinc go k n pc z L st S = some out at h
    unfold z_o_iinc at h
    repeat' split at h
    all_goals first | exact hgo _ _ _ _ h | exact hK _ _ _ _ _ h | (cases h; done) | exact hgo _ _ _ _ (z_cnd h).2
  | iadd =>
    obtain ⟨hd, hl, hj, ho⟩ := z_okE_ok hE (by intro q; cases q)
    obtain rfl : len = 1 := Nat.eq_of_beq_eq_true hl
    change z_o_iadd go pc z L st S = some out at h
    unfold z_o_iadd at h
    repeat' split at h
    all_goals first | exact hgo _ _ _ _ h | exact hK _ _ _ _ _ h | (cases h; done) | exact hgo _ _ _ _ (z_cnd h).2
  | isub =>
    obtain ⟨hd, hl, hj, ho⟩ := z_okE_ok hE (by intro q; cases q)
    obtain rfl : len = 1 := Nat.eq_of_beq_eq_true hl
    change z_o_isub go pc z L st S = some out at h
    unfold z_o_isub at h
    repeat' split at h
    all_goals first | exact hgo _ _ _ _ h | exact hK _ _ _ _ _ h | (cases h; done) | exact hgo _ _ _ _ (z_cnd h).2
  | imul =>
    obtain ⟨hd, hl, hj, ho⟩ := z_okE_ok hE (by intro q; cases q)
    obtain rfl : len = 1 := Nat.eq_of_beq_eq_true hl
    change z_o_imul go pc z L st S = some out at h
    unfold z_o_imul at h
    repeat' split at h
    all_goals first | exact hgo _ _ _ _ h | exact hK _ _ _ _ _ h | (cases h; done) | exact hgo _ _ _ _ (z_cnd h).2
  | iand =>
    obtain ⟨hd, hl, hj, ho⟩ := z_okE_ok hE (by intro q; cases q)
    obtain rfl : len = 1 := Nat.eq_of_beq_eq_true hl
    change z_o_iand go pc z L st S = some out at h
    unfold z_o_iand at h
    repeat' split at h
    all_goals first | exact hgo _ _ _ _ h | exact hK _ _ _ _ _ h | (cases h; done) | exact hgo _ _ _ _ (z_cnd h).2
  | ior =>
    obtain ⟨hd, hl, hj, ho⟩ := z_okE_ok hE (by intro q; cases q)
    obtain rfl : len = 1 := Nat.eq_of_beq_eq_true hl
    change z_o_ior go pc z L st S = some out at h
    unfold z_o_ior at h
    repeat' split at h
    all_goals first | exact hgo _ _ _ _ h | exact hK _ _ _ _ _ h | (cases h; done) | exact hgo _ _ _ _ (z_cnd h).2
  | ixor =>
    obtain ⟨hd, hl, hj, ho⟩ := z_okE_ok hE (by intro q; cases q)
    obtain rfl : len = 1 := Nat.eq_of_beq_eq_true hl
    change z_o_ixor go pc z L st S = some out at h
    unfold z_o_ixor at h
    repeat' split at h
    all_goals first | exact hgo _ _ _ _ h | exact hK _ _ _ _ _ h | (cases h; done) | exact hgo _ _ _ _ (z_cnd h).2
  | ishl =>
    obtain ⟨hd, hl, hj, ho⟩ := z_okE_ok hE (by intro q; cases q)
    obtain rfl : len = 1 := Nat.eq_of_beq_eq_true hl
    change z_o_ishl go pc z L st S = some out at h
    unfold z_o_ishl at h
    repeat' split at h
    all_goals first | exact hgo _ _ _ _ h | exact hK _ _ _ _ _ h | (cases h; done) | exact hgo _ _ _ _ (z_cnd h).2
  | ishr =>
    obtain ⟨hd, hl, hj, ho⟩ := z_okE_ok hE (by intro q; cases q)
    obtain rfl : len = 1 := Nat.eq_of_beq_eq_true hl
    change z_o_ishr go pc z L st S = some out at h
    unfold z_o_ishr at h
    repeat' split at h
    all_goals first | exact hgo _ _ _ _ h | exact hK _ _ _ _ _ h | (cases h; done) | exact hgo _ _ _ _ (z_cnd h).2
  | iushr =>
    obtain ⟨hd, hl, hj, ho⟩ := z_okE_ok hE (by intro q; cases q)
    obtain rfl : len = 1 := Nat.eq_of_beq_eq_true hl
    change z_o_iushr go pc z L st S = some out at h
    unfold z_o_iushr at h
    repeat' split at h
    all_goals first | exact hgo _ _ _ _ h | exact hK _ _ _ _ _ h | (cases h; done) | exact hgo _ _ _ _ (z_cnd h).2
  | idiv =>
    obtain ⟨hd, hl, hj, ho⟩ := z_okE_ok hE (by intro q; cases q)
    obtain rfl : len = 1 := Nat.eq_of_beq_eq_true hl
    change z_o_idiv go pc z L st S = some out at h
    unfold z_o_idiv at h
    repeat' split at h
    all_goals first | exact hgo _ _ _ _ h | exact hK _ _ _ _ _ h | (cases h; done) | exact hgo _ _ _ _ (z_cnd h).2
  | irem =>
    obtain ⟨hd, hl, hj, ho⟩ := z_okE_ok hE (by intro q; cases q)
    obtain rfl : len = 1 := Nat.eq_of_beq_eq_true hl
    change z_o_irem go pc z L st S = some out at h
    unfold z_o_irem at h
    repeat' split at h
    all_goals first | exact hgo _ _ _ _ h | exact hK _ _ _ _ _ h | (cases h; done) | exact hgo _ _ _ _ (z_cnd h).2
  | ineg =>
    obtain ⟨hd, hl, hj, ho⟩ := z_okE_ok hE (by intro q; cases q)
    obtain rfl : len = 1 := Nat.eq_of_beq_eq_true hl
    change z_o_ineg go pc z L st S = some out at h
    unfold z_o_ineg at h
    repeat' split at h
    all_goals first | exact hgo _ _ _ _ h | exact hK _ _ _ _ _ h | (cases h; done) | exact hgo _ _ _ _ (z_cnd h).2
  | ladd =>
    obtain ⟨hd, hl, hj, ho⟩ := z_okE_ok hE (by intro q; cases q)
    obtain rfl : len = 1 := Nat.eq_of_beq_eq_true hl
    change z_o_ladd go pc z L st S = some out at h
    unfold z_o_ladd at h
    repeat' split at h
    all_goals first | exact hgo _ _ _ _ h | exact hK _ _ _ _ _ h | (cases h; done) | exact hgo _ _ _ _ (z_cnd h).2
  | lsub =>
    obtain ⟨hd, hl, hj, ho⟩ := z_okE_ok hE (by intro q; cases q)
    obtain rfl : len = 1 := Nat.eq_of_beq_eq_true hl
    change z_o_lsub go pc z L st S = some out at h
    unfold z_o_lsub at h
    repeat' split at h
    all_goals first | exact hgo _ _ _ _ h | exact hK _ _ _ _ _ h | (cases h; done) | exact hgo _ _ _ _ (z_cnd h).2
  | land =>
    obtain ⟨hd, hl, hj, ho⟩ := z_okE_ok hE (by intro q; cases q)
    obtain rfl : len = 1 := Nat.eq_of_beq_eq_true hl
    change z_o_land go pc z L st S = some out at h
    unfold z_o_land at h
    repeat' split at h
    all_goals first | exact hgo _ _ _ _ h | exact hK _ _ _ _ _ h | (cases h; done) | exact hgo _ _ _ _ (z_cnd h).2
  | lor =>
    obtain ⟨hd, hl, hj, ho⟩ := z_okE_ok hE (by intro q; cases q)
    obtain rfl : len = 1 := Nat.eq_of_beq_eq_true hl
    change z_o_lor go pc z L st S = some out at h
    unfold z_o_lor at h
    repeat' split at h
    all_goals first | exact hgo _ _ _ _ h | exact hK _ _ _ _ _ h | (cases h; done) | exact hgo _ _ _ _ (z_cnd h).2
  | lshl =>
    obtain ⟨hd, hl, hj, ho⟩ := z_okE_ok hE (by intro q; cases q)
    obtain rfl : len = 1 := Nat.eq_of_beq_eq_true hl
    change z_o_lshl go pc z L st S = some out at h
    unfold z_o_lshl at h
    repeat' split at h
    all_goals first | exact hgo _ _ _ _ h | exact hK _ _ _ _ _ h | (cases h; done) | exact hgo _ _ _ _ (z_cnd h).2
  | lushr =>
    obtain ⟨hd, hl, hj, ho⟩ := z_okE_ok hE (by intro q; cases q)
    obtain rfl : len = 1 := Nat.eq_of_beq_eq_true hl
    change z_o_lushr go pc z L st S = some out at h
    unfold z_o_lushr at h
    repeat' split at h
    all_goals first | exact hgo _ _ _ _ h | exact hK _ _ _ _ _ h | (cases h; done) | exact hgo _ _ _ _ (z_cnd h).2
  | lcmp =>
    obtain ⟨hd, hl, hj, ho⟩ := z_okE_ok hE (by intro q; cases q)
    obtain rfl : len = 1 := Nat.eq_of_beq_eq_true hl
    change z_o_lcmp go pc z L st S = some out at h
    unfold z_o_lcmp at h
    repeat' split at h
    all_goals first | exact hgo _ _ _ _ h | exact hK _ _ _ _ _ h | (cases h; done) | exact hgo _ _ _ _ (z_cnd h).2
  | i2l =>
    obtain ⟨hd, hl, hj, ho⟩ := z_okE_ok hE (by intro q; cases q)
    obtain rfl : len = 1 := Nat.eq_of_beq_eq_true hl
    change z_o_i2l go pc z L st S = some out at h
    unfold z_o_i2l at h
    repeat' split at h
    all_goals first | exact hgo _ _ _ _ h | exact hK _ _ _ _ _ h | (cases h; done) | exact hgo _ _ _ _ (z_cnd h).2
  | l2i =>
    obtain ⟨hd, hl, hj, ho⟩ := z_okE_ok hE (by intro q; cases q)
    obtain rfl : len = 1 := Nat.eq_of_beq_eq_true hl
    change z_o_l2i go pc z L st S = some out at h
    unfold z_o_l2i at h
    repeat' split at h
    all_goals first | exact hgo _ _ _ _ h | exact hK _ _ _ _ _ h | (cases h; done) | exact hgo _ _ _ _ (z_cnd h).2
  | i2b =>
    obtain ⟨hd, hl, hj, ho⟩ := z_okE_ok hE (by intro q; cases q)
    obtain rfl : len = 1 := Nat.eq_of_beq_eq_true hl
    change z_o_i2b go pc z L st S = some out at h
    unfold z_o_i2b at h
    repeat' split at h
    all_goals first | exact hgo _ _ _ _ h | exact hK _ _ _ _ _ h | (cases h; done) | exact hgo _ _ _ _ (z_cnd h).2
  | dup =>
    obtain ⟨hd, hl, hj, ho⟩ := z_okE_ok hE (by intro q; cases q)
    obtain rfl : len = 1 := Nat.eq_of_beq_eq_true hl
    change z_o_dup go pc z L st S = some out at h
    unfold z_o_dup at h
    repeat' split at h
    all_goals first | exact hgo _ _ _ _ h | exact hK _ _ _ _ _ h | (cases h; done) | exact hgo _ _ _ _ (z_cnd h).2
  | dup2 =>
    obtain ⟨hd, hl, hj, ho⟩ := z_okE_ok hE (by intro q; cases q)
    obtain rfl : len = 1 := Nat.eq_of_beq_eq_true hl
    change z_o_dup2 go pc z L st S = some out at h
    unfold z_o_dup2 at h
    repeat' split at h
    all_goals first | exact hgo _ _ _ _ h | exact hK _ _ _ _ _ h | (cases h; done) | exact hgo _ _ _ _ (z_cnd h).2
  | baload =>
    obtain ⟨hd, hl, hj, ho⟩ := z_okE_ok hE (by intro q; cases q)
    obtain rfl : len = 1 := Nat.eq_of_beq_eq_true hl
    change z_o_baload go pc z L st S = some out at h
    unfold z_o_baload at h
    repeat' split at h
    all_goals first | exact hgo _ _ _ _ h | exact hK _ _ _ _ _ h | (cases h; done) | exact hgo _ _ _ _ (z_cnd h).2
  | laload =>
    obtain ⟨hd, hl, hj, ho⟩ := z_okE_ok hE (by intro q; cases q)
    obtain rfl : len = 1 := Nat.eq_of_beq_eq_true hl
    change z_o_laload go pc z L st S = some out at h
    unfold z_o_laload at h
    repeat' split at h
    all_goals first | exact hgo _ _ _ _ h | exact hK _ _ _ _ _ h | (cases h; done) | exact hgo _ _ _ _ (z_cnd h).2
  | getstatic ix =>
    obtain ⟨hd, hl, hj, ho⟩ := z_okE_ok hE (by intro q; cases q)
    obtain rfl : len = 3 := Nat.eq_of_beq_eq_true hl
    change z_o_getstatic ops go pc z L st S = some out at h
    unfold z_o_getstatic at h
    repeat' split at h
    all_goals first | exact hgo _ _ _ _ h | exact hK _ _ _ _ _ h | (cases h; done) | exact hgo _ _ _ _ (z_cnd h).2
  | ldc ix =>
    obtain ⟨hd, hl, hj, ho⟩ := z_okE_ok hE (by intro q; cases q)
    obtain rfl : len = 2 := Nat.eq_of_beq_eq_true hl
    change z_o_ldc ops go pc z L st S = some out at h
    unfold z_o_ldc at h
    repeat' split at h
    all_goals first | exact hgo _ _ _ _ h | exact hK _ _ _ _ _ h | (cases h; done) | exact hgo _ _ _ _ (z_cnd h).2
  | ldc_w ix =>
    obtain ⟨hd, hl, hj, ho⟩ := z_okE_ok hE (by intro q; cases q)
    obtain rfl : len = 3 := Nat.eq_of_beq_eq_true hl
    change z_o_ldc_w ops go pc z L st S = some out at h
    unfold z_o_ldc_w at h
    repeat' split at h
    all_goals first | exact hgo _ _ _ _ h | exact hK _ _ _ _ _ h | (cases h; done) | exact hgo _ _ _ _ (z_cnd h).2
  | ldc2_w ix =>
    obtain ⟨hd, hl, hj, ho⟩ := z_okE_ok hE (by intro q; cases q)
    obtain rfl : len = 3 := Nat.eq_of_beq_eq_true hl
    change z_o_ldc2_w ops go pc z L st S = some out at h
    unfold z_o_ldc2_w at h
    repeat' split at h
    all_goals first | exact hgo _ _ _ _ h | exact hK _ _ _ _ _ h | (cases h; done) | exact hgo _ _ _ _ (z_cnd h).2
  | getfield ix =>
    obtain ⟨hd, hl, hj, ho⟩ := z_okE_ok hE (by intro q; cases q)
    obtain rfl : len = 3 := Nat.eq_of_beq_eq_true hl
    change z_o_getfield ops go pc z L st S = some out at h
    unfold z_o_getfield at h
    split at h
    · split at h
      · have h := (z_cnd h).2
        split at h
        all_goals first | exact hgo _ _ _ _ h | exact hgo _ _ _ _ (z_cnd2 h).2 | (cases h; done)
      · cases h
    · cases h
  | putfield ix =>
    obtain ⟨hd, hl, hj, ho⟩ := z_okE_ok hE (by intro q; cases q)
    obtain rfl : len = 3 := Nat.eq_of_beq_eq_true hl
    change z_o_putfield ops go pc z L st S = some out at h
    obtain ⟨c0, k, t, v, nest, ti, rfl, hc, -⟩ := z_okO_put ho
    unfold z_o_putfield at h
    dsimp only at h
    split at h
    · have hk := (z_cnd h).1
      simp only [Bool.and_eq_true] at hk
      exact (z_fr_w1 (z_isO_ok hc hk.1.1).1).tr (hgo _ _ _ _ (z_cnd h).2)
    · have hk := (z_cnd h).1
      simp only [Bool.and_eq_true] at hk
      exact (z_fr_w1 (z_isO_ok hc hk.1.1).1).tr (hgo _ _ _ _ (z_cnd h).2)
    · cases h
  | iaload =>
    obtain ⟨hd, hl, hj, ho⟩ := z_okE_ok hE (by intro q; cases q)
    obtain rfl : len = 1 := Nat.eq_of_beq_eq_true hl
    change z_o_iaload lm go pc z L st S = some out at h
    unfold z_o_iaload at h
    split at h
    · rename_i x a r0
      cases ha : (lm && Nat.beq a 1300) with
      | true => rw [ha] at h; exact hgo _ _ _ _ (z_cnd h).2
      | false => rw [ha] at h; exact hgo _ _ _ _ (z_cnd h).2
    · cases h
  | aaload =>
    obtain ⟨hd, hl, hj, ho⟩ := z_okE_ok hE (by intro q; cases q)
    obtain rfl : len = 1 := Nat.eq_of_beq_eq_true hl
    change z_o_aaload go pc z L st S = some out at h
    unfold z_o_aaload at h
    split at h
    · rename_i x a r0
      cases ha : Nat.beq a 1100 with
      | true => rw [ha] at h; exact hgo _ _ _ _ (z_cnd h).2
      | false => rw [ha] at h; exact hgo _ _ _ _ (z_cnd h).2
    · cases h
  | arraylength =>
    obtain ⟨hd, hl, hj, ho⟩ := z_okE_ok hE (by intro q; cases q)
    obtain rfl : len = 1 := Nat.eq_of_beq_eq_true hl
    change z_o_arraylength lm go pc z L st S = some out at h
    unfold z_o_arraylength at h
    split at h
    · rename_i a r0
      cases ha : (lm && Nat.beq a 1300) with
      | true => rw [ha] at h; exact hgo _ _ _ _ h
      | false =>
        rw [ha] at h
        cases hA : Nat.beq a 1100 with
        | true => rw [hA] at h; exact hgo _ _ _ _ h
        | false => rw [hA] at h; exact hgo _ _ _ _ (z_cnd h).2
    · cases h
  | iastore =>
    obtain ⟨hd, hl, hj, ho⟩ := z_okE_ok hE (by intro q; cases q)
    obtain rfl : len = 1 := Nat.eq_of_beq_eq_true hl
    change z_o_iastore go pc z L st S = some out at h
    unfold z_o_iastore at h
    split at h
    · have hk := (z_cnd h).1
      simp only [Bool.and_eq_true] at hk
      exact (z_fr_w1 (z_at_lt (by rw [Nat.eq_of_beq_eq_true hk.1]; decide))).tr (hgo _ _ _ _ (z_cnd h).2)
    · cases h
  | lastore =>
    obtain ⟨hd, hl, hj, ho⟩ := z_okE_ok hE (by intro q; cases q)
    obtain rfl : len = 1 := Nat.eq_of_beq_eq_true hl
    change z_o_lastore go pc z L st S = some out at h
    unfold z_o_lastore at h
    split at h
    · exact (z_fr_2 _).tr (hgo _ _ _ _ (z_cnd h).2)
    · cases h
  | bastore =>
    obtain ⟨hd, hl, hj, ho⟩ := z_okE_ok hE (by intro q; cases q)
    obtain rfl : len = 1 := Nat.eq_of_beq_eq_true hl
    change z_o_bastore go pc z L st S = some out at h
    unfold z_o_bastore at h
    split at h
    · have h := (z_cnd h).2
      split at h
      · rename_i ht
        exact (z_fr_w1 (z_at_lt (by rw [ht]; decide))).tr (hgo _ _ _ _ h)
      · rename_i ht
        exact (z_fr_w1 (z_at_lt (by rw [ht]; decide))).tr (hgo _ _ _ _ h)
      · cases h
    · cases h
  | ifCond c9 off =>
    obtain ⟨hd, hl, hj, ho⟩ := z_okE_ok hE (by intro q; cases q)
    obtain rfl : len = 3 := Nat.eq_of_beq_eq_true hl
    change z_o_ifCond K go c9 off pc z L st S = some out at h
    unfold z_o_ifCond at h
    repeat' split at h
    all_goals first | exact hgo _ _ _ _ h | exact hK _ _ _ _ _ h | (cases h; done) | exact hgo _ _ _ _ (z_cnd h).2
  | if_icmp c9 off =>
    obtain ⟨hd, hl, hj, ho⟩ := z_okE_ok hE (by intro q; cases q)
    obtain rfl : len = 3 := Nat.eq_of_beq_eq_true hl
    change z_o_if_icmp K go c9 off pc z L st S = some out at h
    unfold z_o_if_icmp at h
    repeat' split at h
    all_goals first | exact hgo _ _ _ _ h | exact hK _ _ _ _ _ h | (cases h; done) | exact hgo _ _ _ _ (z_cnd h).2
  | if_acmp c9 off =>
    obtain ⟨hd, hl, hj, ho⟩ := z_okE_ok hE (by intro q; cases q)
    obtain rfl : len = 3 := Nat.eq_of_beq_eq_true hl
    change z_o_if_acmp K go c9 off pc z L st S = some out at h
    unfold z_o_if_acmp at h
    split at h
    · have h := (z_cnd h).2
      repeat' split at h
      all_goals first | exact hgo _ _ _ _ h | exact hK _ _ _ _ _ h
    · cases h
  | goto off =>
    obtain ⟨hd, hl, hj, ho⟩ := z_okE_ok hE (by intro q; cases q)
    obtain rfl : len = 3 := Nat.eq_of_beq_eq_true hl
    change z_o_goto K off pc z L st S = some out at h
    exact hK _ _ _ _ _ h
  | tableswitch d lo hi offs =>
    obtain ⟨hd, hl, hj, ho⟩ := z_okE_ok hE (by intro q; cases q)
    change z_o_tableswitch K d lo hi offs pc z L st S = some out at h
    unfold z_o_tableswitch at h
    split at h
    · unfold z_sw at h
      split at h
      · exact hK _ _ _ _ _ h
      · split at h
        · exact hK _ _ _ _ _ h
        · cases h
    · cases h
  | lookupswitch d ps =>
    obtain ⟨hd, hl, hj, ho⟩ := z_okE_ok hE (by intro q; cases q)
    change z_o_lookupswitch K d ps pc z L st S = some out at h
    unfold z_o_lookupswitch at h
    split at h
    · exact hK _ _ _ _ _ h
    · cases h
  | invokevirtual ix =>
    obtain ⟨hd, hl, hj, ho⟩ := z_okE_ok hE (by intro q; cases q)
    obtain rfl : len = 3 := Nat.eq_of_beq_eq_true hl
    change z_call lm hd0 E go ops pc z L st S = some out at h
    exact z_fr_cv ho h (fun z' st' S' h' => hgo _ _ _ _ h') hF
  | invokestatic ix =>
    obtain ⟨hd, hl, hj, ho⟩ := z_okE_ok hE (by intro q; cases q)
    obtain rfl : len = 3 := Nat.eq_of_beq_eq_true hl
    change z_call lm hd0 E go ops pc z L st S = some out at h
    exact z_fr_cs ho h (fun z' st' S' h' => hgo _ _ _ _ h') hF
  | ireturn =>
    obtain ⟨hd, hl, hj, ho⟩ := z_okE_ok hE (by intro q; cases q)
    obtain rfl : len = 1 := Nat.eq_of_beq_eq_true hl
    change z_o_ireturn rt pc z L st S = some out at h
    unfold z_o_ireturn at h
    split at h
    · cases (z_cnd h).2
      exact z_fr.rf _
    · cases h
  | areturn =>
    obtain ⟨hd, hl, hj, ho⟩ := z_okE_ok hE (by intro q; cases q)
    obtain rfl : len = 1 := Nat.eq_of_beq_eq_true hl
    change z_o_areturn lm pc z L st S = some out at h
    unfold z_o_areturn at h
    split at h
    · cases (z_cnd h).2
      exact z_fr.rf _
    · cases h
  | return_ =>
    obtain ⟨hd, hl, hj, ho⟩ := z_okE_ok hE (by intro q; cases q)
    obtain rfl : len = 1 := Nat.eq_of_beq_eq_true hl
    change z_o_return_ lm pc z L st S = some out at h
    unfold z_o_return_ at h
    split at h
    · cases (z_cnd h).2
      exact z_fr.rf _
    · cases h
  | athrow =>
    change z_o_athrow lm ops pc z L st S = some out at h
    unfold z_o_athrow at h
    split at h
    · split at h
      · cases (z_cnd2 h).2
        exact z_fr.rf _
      · cases h
    · cases h
  | _ => cases h
theorem z_fr_ex (hK : ∀ t z' L' st' S', K t z' L' st' S' = some out → z_fr S' out.2) (hF : ∀ m' as S o S1, m' < 211 → E m' as S = some (o, S1) → z_fr S S1) : ∀ (is : List z_I) (pc z : Nat) (L : z_Lo) (st : List Value) (S : z_St), z_okL cc own pc is = true → z_ex lm rt hd0 E K is pc z L st S = some out → z_fr S out.2
  | [], pc, z, L, st, S, _, h => hK pc z L st S h
  | x :: is, pc, z, L, st, S, ho, h => by
    obtain ⟨i, len, ops⟩ := x
    have ho2 : (z_okE cc own pc (i, len, ops) && z_okL cc own (pc + len) is) = true := ho
    simp only [Bool.and_eq_true] at ho2
    exact z_fr_st ho2.1 h (fun z' L' st' S' h3 => z_fr_ex hK hF is (pc + len) z' L' st' S' ho2.2 h3) hK hF
theorem z_fnd_mem {α : Type} : ∀ (l : List (Nat × α)) (k : Nat) (q : α), z_fnd l k = some q → (k, q) ∈ l
  | [], k, q, h => by cases h
  | a :: l, k, q, h => by
    unfold z_fnd at h
    cases hb : Nat.beq a.1 k with
    | true =>
      rw [hb] at h
      obtain rfl := Nat.eq_of_beq_eq_true hb
      cases h
      exact List.mem_cons_self
    | false => rw [hb] at h; exact List.mem_cons_of_mem _ (z_fnd_mem l k q h)
theorem z_fr_run {b : z_B} (hob : z_okB cc own b = true) (hF : ∀ m' as S o S1, m' < 211 → E m' as S = some (o, S1) → z_fr S S1) : ∀ (n pc z : Nat) (L : z_Lo) (st : List Value) (S : z_St), z_run lm rt hd0 E b n pc z L st S = some out → z_fr S out.2
  | 0, pc, z, L, st, S, h => by cases h
  | n + 1, pc, z, L, st, S, h => by
    unfold z_run at h
    split at h
    · rename_i q hq
      have hm := z_fnd_mem _ _ _ hq
      exact z_fr_ex (fun t z' L' st' S' h3 => z_fr_run hob hF n t z' L' st' S' h3) hF q.2 pc z (z_mk q.1 L) st S (List.all_eq_true.mp hob _ hm) h
    · cases h
end ZF
theorem z_okb_of {m : Nat} {own : String} {b : z_B} (h : z_okB (z_m m).2.1 own b = true) (h1 : z_own.getD (z_m m).2.2.2.2.1 "" = own) (h2 : z_bs.getD m [] = b) : z_okB (z_m m).2.1 (z_own.getD (z_m m).2.2.2.2.1 "") (z_bs.getD m []) = true := by rw [h1, h2]; exact h
set_option maxRecDepth 100000 in
theorem z_okb_d0 (m : Nat) (h1 : 0 ≤ m) (h2 : m < 10) : z_okB (z_m m).2.1 (z_own.getD (z_m m).2.2.2.2.1 "") (z_bs.getD m []) = true := by
  have hc : m = 0 ∨ m = 1 ∨ m = 2 ∨ m = 3 ∨ m = 4 ∨ m = 5 ∨ m = 6 ∨ m = 7 ∨ m = 8 ∨ m = 9 := by omega
  rcases hc with rfl | rfl | rfl | rfl | rfl | rfl | rfl | rfl | rfl | rfl
  · exact z_okb_of z_okb_0 rfl rfl
  · exact z_okb_of z_okb_1 rfl rfl
  · exact z_okb_of z_okb_2 rfl rfl
  · exact z_okb_of z_okb_3 rfl rfl
  · exact z_okb_of z_okb_4 rfl rfl
  · exact z_okb_of z_okb_5 rfl rfl
  · exact z_okb_of z_okb_6 rfl rfl
  · exact z_okb_of z_okb_7 rfl rfl
  · exact z_okb_of z_okb_8 rfl rfl
  · exact z_okb_of z_okb_9 rfl rfl
set_option maxRecDepth 100000 in
theorem z_okb_d10 (m : Nat) (h1 : 10 ≤ m) (h2 : m < 20) : z_okB (z_m m).2.1 (z_own.getD (z_m m).2.2.2.2.1 "") (z_bs.getD m []) = true := by
  have hc : m = 10 ∨ m = 11 ∨ m = 12 ∨ m = 13 ∨ m = 14 ∨ m = 15 ∨ m = 16 ∨ m = 17 ∨ m = 18 ∨ m = 19 := by omega
  rcases hc with rfl | rfl | rfl | rfl | rfl | rfl | rfl | rfl | rfl | rfl
  · exact z_okb_of z_okb_10 rfl rfl
  · exact z_okb_of z_okb_11 rfl rfl
  · exact z_okb_of z_okb_12 rfl rfl
  · exact z_okb_of z_okb_13 rfl rfl
  · exact z_okb_of z_okb_14 rfl rfl
  · exact z_okb_of z_okb_15 rfl rfl
  · exact z_okb_of z_okb_16 rfl rfl
  · exact z_okb_of z_okb_17 rfl rfl
  · exact z_okb_of z_okb_18 rfl rfl
  · exact z_okb_of z_okb_19 rfl rfl
set_option maxRecDepth 100000 in
theorem z_okb_d20 (m : Nat) (h1 : 20 ≤ m) (h2 : m < 30) : z_okB (z_m m).2.1 (z_own.getD (z_m m).2.2.2.2.1 "") (z_bs.getD m []) = true := by
  have hc : m = 20 ∨ m = 21 ∨ m = 22 ∨ m = 23 ∨ m = 24 ∨ m = 25 ∨ m = 26 ∨ m = 27 ∨ m = 28 ∨ m = 29 := by omega
  rcases hc with rfl | rfl | rfl | rfl | rfl | rfl | rfl | rfl | rfl | rfl
  · exact z_okb_of z_okb_20 rfl rfl
  · exact z_okb_of z_okb_21 rfl rfl
  · exact z_okb_of z_okb_22 rfl rfl
  · exact z_okb_of z_okb_23 rfl rfl
  · exact z_okb_of z_okb_24 rfl rfl
  · exact z_okb_of z_okb_25 rfl rfl
  · exact z_okb_of z_okb_26 rfl rfl
  · exact z_okb_of z_okb_27 rfl rfl
  · exact z_okb_of z_okb_28 rfl rfl
  · exact z_okb_of z_okb_29 rfl rfl
set_option maxRecDepth 100000 in
theorem z_okb_d30 (m : Nat) (h1 : 30 ≤ m) (h2 : m < 40) : z_okB (z_m m).2.1 (z_own.getD (z_m m).2.2.2.2.1 "") (z_bs.getD m []) = true := by
  have hc : m = 30 ∨ m = 31 ∨ m = 32 ∨ m = 33 ∨ m = 34 ∨ m = 35 ∨ m = 36 ∨ m = 37 ∨ m = 38 ∨ m = 39 := by omega
  rcases hc with rfl | rfl | rfl | rfl | rfl | rfl | rfl | rfl | rfl | rfl
  · exact z_okb_of z_okb_30 rfl rfl
  · exact z_okb_of z_okb_31 rfl rfl
  · exact z_okb_of z_okb_32 rfl rfl
  · exact z_okb_of z_okb_33 rfl rfl
  · exact z_okb_of z_okb_34 rfl rfl
  · exact z_okb_of z_okb_35 rfl rfl
  · exact z_okb_of z_okb_36 rfl rfl
  · exact z_okb_of z_okb_37 rfl rfl
  · exact z_okb_of z_okb_38 rfl rfl
  · exact z_okb_of z_okb_39 rfl rfl
set_option maxRecDepth 100000 in
theorem z_okb_d40 (m : Nat) (h1 : 40 ≤ m) (h2 : m < 50) : z_okB (z_m m).2.1 (z_own.getD (z_m m).2.2.2.2.1 "") (z_bs.getD m []) = true := by
  have hc : m = 40 ∨ m = 41 ∨ m = 42 ∨ m = 43 ∨ m = 44 ∨ m = 45 ∨ m = 46 ∨ m = 47 ∨ m = 48 ∨ m = 49 := by omega
  rcases hc with rfl | rfl | rfl | rfl | rfl | rfl | rfl | rfl | rfl | rfl
  · exact z_okb_of z_okb_40 rfl rfl
  · exact z_okb_of z_okb_41 rfl rfl
  · exact z_okb_of z_okb_42 rfl rfl
  · exact z_okb_of z_okb_43 rfl rfl
  · exact z_okb_of z_okb_44 rfl rfl
  · exact z_okb_of z_okb_45 rfl rfl
  · exact z_okb_of z_okb_46 rfl rfl
  · exact z_okb_of z_okb_47 rfl rfl
  · exact z_okb_of z_okb_48 rfl rfl
  · exact z_okb_of z_okb_49 rfl rfl
set_option maxRecDepth 100000 in
theorem z_okb_d50 (m : Nat) (h1 : 50 ≤ m) (h2 : m < 60) : z_okB (z_m m).2.1 (z_own.getD (z_m m).2.2.2.2.1 "") (z_bs.getD m []) = true := by
  have hc : m = 50 ∨ m = 51 ∨ m = 52 ∨ m = 53 ∨ m = 54 ∨ m = 55 ∨ m = 56 ∨ m = 57 ∨ m = 58 ∨ m = 59 := by omega
  rcases hc with rfl | rfl | rfl | rfl | rfl | rfl | rfl | rfl | rfl | rfl
  · exact z_okb_of z_okb_50 rfl rfl
  · exact z_okb_of z_okb_51 rfl rfl
  · exact z_okb_of z_okb_52 rfl rfl
  · exact z_okb_of z_okb_53 rfl rfl
  · exact z_okb_of z_okb_54 rfl rfl
  · exact z_okb_of z_okb_55 rfl rfl
  · exact z_okb_of z_okb_56 rfl rfl
  · exact z_okb_of z_okb_57 rfl rfl
  · exact z_okb_of z_okb_58 rfl rfl
  · exact z_okb_of z_okb_59 rfl rfl
set_option maxRecDepth 100000 in
theorem z_okb_d60 (m : Nat) (h1 : 60 ≤ m) (h2 : m < 70) : z_okB (z_m m).2.1 (z_own.getD (z_m m).2.2.2.2.1 "") (z_bs.getD m []) = true := by
  have hc : m = 60 ∨ m = 61 ∨ m = 62 ∨ m = 63 ∨ m = 64 ∨ m = 65 ∨ m = 66 ∨ m = 67 ∨ m = 68 ∨ m = 69 := by omega
  rcases hc with rfl | rfl | rfl | rfl | rfl | rfl | rfl | rfl | rfl | rfl
  · exact z_okb_of z_okb_60 rfl rfl
  · exact z_okb_of z_okb_61 rfl rfl
  · exact z_okb_of z_okb_62 rfl rfl
  · exact z_okb_of z_okb_63 rfl rfl
  · exact z_okb_of z_okb_64 rfl rfl
  · exact z_okb_of z_okb_65 rfl rfl
  · exact z_okb_of z_okb_66 rfl rfl
  · exact z_okb_of z_okb_67 rfl rfl
  · exact z_okb_of z_okb_68 rfl rfl
  · exact z_okb_of z_okb_69 rfl rfl
set_option maxRecDepth 100000 in
theorem z_okb_d70 (m : Nat) (h1 : 70 ≤ m) (h2 : m < 80) : z_okB (z_m m).2.1 (z_own.getD (z_m m).2.2.2.2.1 "") (z_bs.getD m []) = true := by
  have hc : m = 70 ∨ m = 71 ∨ m = 72 ∨ m = 73 ∨ m = 74 ∨ m = 75 ∨ m = 76 ∨ m = 77 ∨ m = 78 ∨ m = 79 := by omega
  rcases hc with rfl | rfl | rfl | rfl | rfl | rfl | rfl | rfl | rfl | rfl
  · exact z_okb_of z_okb_70 rfl rfl
  · exact z_okb_of z_okb_71 rfl rfl
  · exact z_okb_of z_okb_72 rfl rfl
  · exact z_okb_of z_okb_73 rfl rfl
  · exact z_okb_of z_okb_74 rfl rfl
  · exact z_okb_of z_okb_75 rfl rfl
  · exact z_okb_of z_okb_76 rfl rfl
  · exact z_okb_of z_okb_77 rfl rfl
  · exact z_okb_of z_okb_78 rfl rfl
  · exact z_okb_of z_okb_79 rfl rfl
set_option maxRecDepth 100000 in
theorem z_okb_d80 (m : Nat) (h1 : 80 ≤ m) (h2 : m < 90) : z_okB (z_m m).2.1 (z_own.getD (z_m m).2.2.2.2.1 "") (z_bs.getD m []) = true := by
  have hc : m = 80 ∨ m = 81 ∨ m = 82 ∨ m = 83 ∨ m = 84 ∨ m = 85 ∨ m = 86 ∨ m = 87 ∨ m = 88 ∨ m = 89 := by omega
  rcases hc with rfl | rfl | rfl | rfl | rfl | rfl | rfl | rfl | rfl | rfl
  · exact z_okb_of z_okb_80 rfl rfl
  · exact z_okb_of z_okb_81 rfl rfl
  · exact z_okb_of z_okb_82 rfl rfl
  · exact z_okb_of z_okb_83 rfl rfl
  · exact z_okb_of z_okb_84 rfl rfl
  · exact z_okb_of z_okb_85 rfl rfl
  · exact z_okb_of z_okb_86 rfl rfl
  · exact z_okb_of z_okb_87 rfl rfl
  · exact z_okb_of z_okb_88 rfl rfl
  · exact z_okb_of z_okb_89 rfl rfl
set_option maxRecDepth 100000 in
theorem z_okb_d90 (m : Nat) (h1 : 90 ≤ m) (h2 : m < 100) : z_okB (z_m m).2.1 (z_own.getD (z_m m).2.2.2.2.1 "") (z_bs.getD m []) = true := by
  have hc : m = 90 ∨ m = 91 ∨ m = 92 ∨ m = 93 ∨ m = 94 ∨ m = 95 ∨ m = 96 ∨ m = 97 ∨ m = 98 ∨ m = 99 := by omega
  rcases hc with rfl | rfl | rfl | rfl | rfl | rfl | rfl | rfl | rfl | rfl
  · exact z_okb_of z_okb_90 rfl rfl
  · exact z_okb_of z_okb_91 rfl rfl
  · exact z_okb_of z_okb_92 rfl rfl
  · exact z_okb_of z_okb_93 rfl rfl
  · exact z_okb_of z_okb_94 rfl rfl
  · exact z_okb_of z_okb_95 rfl rfl
  · exact z_okb_of z_okb_96 rfl rfl
  · exact z_okb_of z_okb_97 rfl rfl
  · exact z_okb_of z_okb_98 rfl rfl
  · exact z_okb_of z_okb_99 rfl rfl
set_option maxRecDepth 100000 in
theorem z_okb_d100 (m : Nat) (h1 : 100 ≤ m) (h2 : m < 110) : z_okB (z_m m).2.1 (z_own.getD (z_m m).2.2.2.2.1 "") (z_bs.getD m []) = true := by
  have hc : m = 100 ∨ m = 101 ∨ m = 102 ∨ m = 103 ∨ m = 104 ∨ m = 105 ∨ m = 106 ∨ m = 107 ∨ m = 108 ∨ m = 109 := by omega
  rcases hc with rfl | rfl | rfl | rfl | rfl | rfl | rfl | rfl | rfl | rfl
  · exact z_okb_of z_okb_100 rfl rfl
  · exact z_okb_of z_okb_101 rfl rfl
  · exact z_okb_of z_okb_102 rfl rfl
  · exact z_okb_of z_okb_103 rfl rfl
  · exact z_okb_of z_okb_104 rfl rfl
  · exact z_okb_of z_okb_105 rfl rfl
  · exact z_okb_of z_okb_106 rfl rfl
  · exact z_okb_of z_okb_107 rfl rfl
  · exact z_okb_of z_okb_108 rfl rfl
  · exact z_okb_of z_okb_109 rfl rfl
set_option maxRecDepth 100000 in
theorem z_okb_d110 (m : Nat) (h1 : 110 ≤ m) (h2 : m < 120) : z_okB (z_m m).2.1 (z_own.getD (z_m m).2.2.2.2.1 "") (z_bs.getD m []) = true := by
  have hc : m = 110 ∨ m = 111 ∨ m = 112 ∨ m = 113 ∨ m = 114 ∨ m = 115 ∨ m = 116 ∨ m = 117 ∨ m = 118 ∨ m = 119 := by omega
  rcases hc with rfl | rfl | rfl | rfl | rfl | rfl | rfl | rfl | rfl | rfl
  · exact z_okb_of z_okb_110 rfl rfl
  · exact z_okb_of z_okb_111 rfl rfl
  · exact z_okb_of z_okb_112 rfl rfl
  · exact z_okb_of z_okb_113 rfl rfl
  · exact z_okb_of z_okb_114 rfl rfl
  · exact z_okb_of z_okb_115 rfl rfl
  · exact z_okb_of z_okb_116 rfl rfl
  · exact z_okb_of z_okb_117 rfl rfl
  · exact z_okb_of z_okb_118 rfl rfl
  · exact z_okb_of z_okb_119 rfl rfl
set_option maxRecDepth 100000 in
theorem z_okb_d120 (m : Nat) (h1 : 120 ≤ m) (h2 : m < 130) : z_okB (z_m m).2.1 (z_own.getD (z_m m).2.2.2.2.1 "") (z_bs.getD m []) = true := by
  have hc : m = 120 ∨ m = 121 ∨ m = 122 ∨ m = 123 ∨ m = 124 ∨ m = 125 ∨ m = 126 ∨ m = 127 ∨ m = 128 ∨ m = 129 := by omega
  rcases hc with rfl | rfl | rfl | rfl | rfl | rfl | rfl | rfl | rfl | rfl
  · exact z_okb_of z_okb_120 rfl rfl
  · exact z_okb_of z_okb_121 rfl rfl
  · exact z_okb_of z_okb_122 rfl rfl
  · exact z_okb_of z_okb_123 rfl rfl
  · exact z_okb_of z_okb_124 rfl rfl
  · exact z_okb_of z_okb_125 rfl rfl
  · exact z_okb_of z_okb_126 rfl rfl
  · exact z_okb_of z_okb_127 rfl rfl
  · exact z_okb_of z_okb_128 rfl rfl
  · exact z_okb_of z_okb_129 rfl rfl
set_option maxRecDepth 100000 in
theorem z_okb_d130 (m : Nat) (h1 : 130 ≤ m) (h2 : m < 140) : z_okB (z_m m).2.1 (z_own.getD (z_m m).2.2.2.2.1 "") (z_bs.getD m []) = true := by
  have hc : m = 130 ∨ m = 131 ∨ m = 132 ∨ m = 133 ∨ m = 134 ∨ m = 135 ∨ m = 136 ∨ m = 137 ∨ m = 138 ∨ m = 139 := by omega
  rcases hc with rfl | rfl | rfl | rfl | rfl | rfl | rfl | rfl | rfl | rfl
  · exact z_okb_of z_okb_130 rfl rfl
  · exact z_okb_of z_okb_131 rfl rfl
  · exact z_okb_of z_okb_132 rfl rfl
  · exact z_okb_of z_okb_133 rfl rfl
  · exact z_okb_of z_okb_134 rfl rfl
  · exact z_okb_of z_okb_135 rfl rfl
  · exact z_okb_of z_okb_136 rfl rfl
  · exact z_okb_of z_okb_137 rfl rfl
  · exact z_okb_of z_okb_138 rfl rfl
  · exact z_okb_of z_okb_139 rfl rfl
set_option maxRecDepth 100000 in
theorem z_okb_d140 (m : Nat) (h1 : 140 ≤ m) (h2 : m < 150) : z_okB (z_m m).2.1 (z_own.getD (z_m m).2.2.2.2.1 "") (z_bs.getD m []) = true := by
  have hc : m = 140 ∨ m = 141 ∨ m = 142 ∨ m = 143 ∨ m = 144 ∨ m = 145 ∨ m = 146 ∨ m = 147 ∨ m = 148 ∨ m = 149 := by omega
  rcases hc with rfl | rfl | rfl | rfl | rfl | rfl | rfl | rfl | rfl | rfl
  · exact z_okb_of z_okb_140 rfl rfl
  · exact z_okb_of z_okb_141 rfl rfl
  · exact z_okb_of z_okb_142 rfl rfl
  · exact z_okb_of z_okb_143 rfl rfl
  · exact z_okb_of z_okb_144 rfl rfl
  · exact z_okb_of z_okb_145 rfl rfl
  · exact z_okb_of z_okb_146 rfl rfl
  · exact z_okb_of z_okb_147 rfl rfl
  · exact z_okb_of z_okb_148 rfl rfl
  · exact z_okb_of z_okb_149 rfl rfl
set_option maxRecDepth 100000 in
theorem z_okb_d150 (m : Nat) (h1 : 150 ≤ m) (h2 : m < 160) : z_okB (z_m m).2.1 (z_own.getD (z_m m).2.2.2.2.1 "") (z_bs.getD m []) = true := by
  have hc : m = 150 ∨ m = 151 ∨ m = 152 ∨ m = 153 ∨ m = 154 ∨ m = 155 ∨ m = 156 ∨ m = 157 ∨ m = 158 ∨ m = 159 := by omega
  rcases hc with rfl | rfl | rfl | rfl | rfl | rfl | rfl | rfl | rfl | rfl
  · exact z_okb_of z_okb_150 rfl rfl
  · exact z_okb_of z_okb_151 rfl rfl
  · exact z_okb_of z_okb_152 rfl rfl
  · exact z_okb_of z_okb_153 rfl rfl
  · exact z_okb_of z_okb_154 rfl rfl
  · exact z_okb_of z_okb_155 rfl rfl
  · exact z_okb_of z_okb_156 rfl rfl
  · exact z_okb_of z_okb_157 rfl rfl
  · exact z_okb_of z_okb_158 rfl rfl
  · exact z_okb_of z_okb_159 rfl rfl
set_option maxRecDepth 100000 in
theorem z_okb_d160 (m : Nat) (h1 : 160 ≤ m) (h2 : m < 170) : z_okB (z_m m).2.1 (z_own.getD (z_m m).2.2.2.2.1 "") (z_bs.getD m []) = true := by
  have hc : m = 160 ∨ m = 161 ∨ m = 162 ∨ m = 163 ∨ m = 164 ∨ m = 165 ∨ m = 166 ∨ m = 167 ∨ m = 168 ∨ m = 169 := by omega
  rcases hc with rfl | rfl | rfl | rfl | rfl | rfl | rfl | rfl | rfl | rfl
  · exact z_okb_of z_okb_160 rfl rfl
  · exact z_okb_of z_okb_161 rfl rfl
  · exact z_okb_of z_okb_162 rfl rfl
  · exact z_okb_of z_okb_163 rfl rfl
  · exact z_okb_of z_okb_164 rfl rfl
  · exact z_okb_of z_okb_165 rfl rfl
  · exact z_okb_of z_okb_166 rfl rfl
  · exact z_okb_of z_okb_167 rfl rfl
  · exact z_okb_of z_okb_168 rfl rfl
  · exact z_okb_of z_okb_169 rfl rfl
set_option maxRecDepth 100000 in
theorem z_okb_d170 (m : Nat) (h1 : 170 ≤ m) (h2 : m < 180) : z_okB (z_m m).2.1 (z_own.getD (z_m m).2.2.2.2.1 "") (z_bs.getD m []) = true := by
  have hc : m = 170 ∨ m = 171 ∨ m = 172 ∨ m = 173 ∨ m = 174 ∨ m = 175 ∨ m = 176 ∨ m = 177 ∨ m = 178 ∨ m = 179 := by omega
  rcases hc with rfl | rfl | rfl | rfl | rfl | rfl | rfl | rfl | rfl | rfl
  · exact z_okb_of z_okb_170 rfl rfl
  · exact z_okb_of z_okb_171 rfl rfl
  · exact z_okb_of z_okb_172 rfl rfl
  · exact z_okb_of z_okb_173 rfl rfl
  · exact z_okb_of z_okb_174 rfl rfl
  · exact z_okb_of z_okb_175 rfl rfl
  · exact z_okb_of z_okb_176 rfl rfl
  · exact z_okb_of z_okb_177 rfl rfl
  · exact z_okb_of z_okb_178 rfl rfl
  · exact z_okb_of z_okb_179 rfl rfl
set_option maxRecDepth 100000 in
theorem z_okb_d180 (m : Nat) (h1 : 180 ≤ m) (h2 : m < 190) : z_okB (z_m m).2.1 (z_own.getD (z_m m).2.2.2.2.1 "") (z_bs.getD m []) = true := by
  have hc : m = 180 ∨ m = 181 ∨ m = 182 ∨ m = 183 ∨ m = 184 ∨ m = 185 ∨ m = 186 ∨ m = 187 ∨ m = 188 ∨ m = 189 := by omega
  rcases hc with rfl | rfl | rfl | rfl | rfl | rfl | rfl | rfl | rfl | rfl
  · exact z_okb_of z_okb_180 rfl rfl
  · exact z_okb_of z_okb_181 rfl rfl
  · exact z_okb_of z_okb_182 rfl rfl
  · exact z_okb_of z_okb_183 rfl rfl
  · exact z_okb_of z_okb_184 rfl rfl
  · exact z_okb_of z_okb_185 rfl rfl
  · exact z_okb_of z_okb_186 rfl rfl
  · exact z_okb_of z_okb_187 rfl rfl
  · exact z_okb_of z_okb_188 rfl rfl
  · exact z_okb_of z_okb_189 rfl rfl
set_option maxRecDepth 100000 in
theorem z_okb_d190 (m : Nat) (h1 : 190 ≤ m) (h2 : m < 200) : z_okB (z_m m).2.1 (z_own.getD (z_m m).2.2.2.2.1 "") (z_bs.getD m []) = true := by
  have hc : m = 190 ∨ m = 191 ∨ m = 192 ∨ m = 193 ∨ m = 194 ∨ m = 195 ∨ m = 196 ∨ m = 197 ∨ m = 198 ∨ m = 199 := by omega
  rcases hc with rfl | rfl | rfl | rfl | rfl | rfl | rfl | rfl | rfl | rfl
  · exact z_okb_of z_okb_190 rfl rfl
  · exact z_okb_of z_okb_191 rfl rfl
  · exact z_okb_of z_okb_192 rfl rfl
  · exact z_okb_of z_okb_193 rfl rfl
  · exact z_okb_of z_okb_194 rfl rfl
  · exact z_okb_of z_okb_195 rfl rfl
  · exact z_okb_of z_okb_196 rfl rfl
  · exact z_okb_of z_okb_197 rfl rfl
  · exact z_okb_of z_okb_198 rfl rfl
  · exact z_okb_of z_okb_199 rfl rfl
set_option maxRecDepth 100000 in
theorem z_okb_d200 (m : Nat) (h1 : 200 ≤ m) (h2 : m < 210) : z_okB (z_m m).2.1 (z_own.getD (z_m m).2.2.2.2.1 "") (z_bs.getD m []) = true := by
  have hc : m = 200 ∨ m = 201 ∨ m = 202 ∨ m = 203 ∨ m = 204 ∨ m = 205 ∨ m = 206 ∨ m = 207 ∨ m = 208 ∨ m = 209 := by omega
  rcases hc with rfl | rfl | rfl | rfl | rfl | rfl | rfl | rfl | rfl | rfl
  · exact z_okb_of z_okb_200 rfl rfl
  · exact z_okb_of z_okb_201 rfl rfl
  · exact z_okb_of z_okb_202 rfl rfl
  · exact z_okb_of z_okb_203 rfl rfl
  · exact z_okb_of z_okb_204 rfl rfl
  · exact z_okb_of z_okb_205 rfl rfl
  · exact z_okb_of z_okb_206 rfl rfl
  · exact z_okb_of z_okb_207 rfl rfl
  · exact z_okb_of z_okb_208 rfl rfl
  · exact z_okb_of z_okb_209 rfl rfl
set_option maxRecDepth 100000 in
theorem z_okb_d210 (m : Nat) (h1 : 210 ≤ m) (h2 : m < 211) : z_okB (z_m m).2.1 (z_own.getD (z_m m).2.2.2.2.1 "") (z_bs.getD m []) = true := by
  have hc : m = 210 := by omega
  rcases hc with rfl
  · exact z_okb_of z_okb_210 rfl rfl
theorem z_okb (m : Nat) (h : m < 211) : z_okB (z_m m).2.1 (z_own.getD (z_m m).2.2.2.2.1 "") (z_bs.getD m []) = true := by
  have hc : (0 ≤ m ∧ m < 10) ∨ (10 ≤ m ∧ m < 20) ∨ (20 ≤ m ∧ m < 30) ∨ (30 ≤ m ∧ m < 40) ∨ (40 ≤ m ∧ m < 50) ∨ (50 ≤ m ∧ m < 60) ∨ (60 ≤ m ∧ m < 70) ∨ (70 ≤ m ∧ m < 80) ∨ (80 ≤ m ∧ m < 90) ∨ (90 ≤ m ∧ m < 100) ∨ (100 ≤ m ∧ m < 110) ∨ (110 ≤ m ∧ m < 120) ∨ (120 ≤ m ∧ m < 130) ∨ (130 ≤ m ∧ m < 140) ∨ (140 ≤ m ∧ m < 150) ∨ (150 ≤ m ∧ m < 160) ∨ (160 ≤ m ∧ m < 170) ∨ (170 ≤ m ∧ m < 180) ∨ (180 ≤ m ∧ m < 190) ∨ (190 ≤ m ∧ m < 200) ∨ (200 ≤ m ∧ m < 210) ∨ (210 ≤ m ∧ m < 211) := by omega
  rcases hc with ⟨h1, h2⟩ | ⟨h1, h2⟩ | ⟨h1, h2⟩ | ⟨h1, h2⟩ | ⟨h1, h2⟩ | ⟨h1, h2⟩ | ⟨h1, h2⟩ | ⟨h1, h2⟩ | ⟨h1, h2⟩ | ⟨h1, h2⟩ | ⟨h1, h2⟩ | ⟨h1, h2⟩ | ⟨h1, h2⟩ | ⟨h1, h2⟩ | ⟨h1, h2⟩ | ⟨h1, h2⟩ | ⟨h1, h2⟩ | ⟨h1, h2⟩ | ⟨h1, h2⟩ | ⟨h1, h2⟩ | ⟨h1, h2⟩ | ⟨h1, h2⟩
  · exact z_okb_d0 m h1 h2
  · exact z_okb_d10 m h1 h2
  · exact z_okb_d20 m h1 h2
  · exact z_okb_d30 m h1 h2
  · exact z_okb_d40 m h1 h2
  · exact z_okb_d50 m h1 h2
  · exact z_okb_d60 m h1 h2
  · exact z_okb_d70 m h1 h2
  · exact z_okb_d80 m h1 h2
  · exact z_okb_d90 m h1 h2
  · exact z_okb_d100 m h1 h2
  · exact z_okb_d110 m h1 h2
  · exact z_okb_d120 m h1 h2
  · exact z_okb_d130 m h1 h2
  · exact z_okb_d140 m h1 h2
  · exact z_okb_d150 m h1 h2
  · exact z_okb_d160 m h1 h2
  · exact z_okb_d170 m h1 h2
  · exact z_okb_d180 m h1 h2
  · exact z_okb_d190 m h1 h2
  · exact z_okb_d200 m h1 h2
  · exact z_okb_d210 m h1 h2
/-- what a method answers, to a depth of calls; its things fit its locals -/
noncomputable def z_ew : Nat → z_Ev
  | 0 => fun _ _ _ => none
  | d + 1 => fun m as S => cond (Nat.ble (z_sl as).length (z_m m).2.2.1) (z_run false (z_m m).2.2.2.1 (z_m m).2.2.2.2.2 (z_ew d) (z_bs.getD m []) z_fuel 0 0 (z_in (z_m m).2.2.1 as) [] S) none
theorem z_fr_ew : ∀ (d m : Nat) (as : List Value) (S : z_St) (o : z_Out) (S1 : z_St), m < 211 → z_ew d m as S = some (o, S1) → z_fr S S1
  | 0, m, as, S, o, S1, _, h => by cases h
  | d + 1, m, as, S, o, S1, hm, h => by
    unfold z_ew at h
    exact z_fr_run (out := (o, S1)) (z_okb m hm) (fun m' as S o S1 hm' h' => z_fr_ew d m' as S o S1 hm' h') _ _ _ _ _ _ (z_cnd h).2
