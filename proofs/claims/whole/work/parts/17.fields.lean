/-! one instruction: what the abstract machine does, the machine does -/
theorem z_okE_ok {cc : ByteArray} {own : String} {pc len : Nat} {i : Instr} {ops : List Nat} (h : z_okE cc own pc (i, len, ops) = true) (hi : i ≠ .athrow) : decode cc pc = .ok (i, len) ∧ (z_isSw i || Nat.beq len (z_il i)) = true ∧ z_okJ pc i = true ∧ z_okO own i ops = true := by
  unfold z_okE at h
  dsimp only at h
  split at h
  · exact absurd rfl hi
  · simp only [Bool.and_eq_true] at h
    exact ⟨z_dec_ok h.1.1.1, h.1.1.2, h.1.2, h.2⟩
theorem z_cnd {c : Bool} {A : z_Res} {o : z_Out × z_St} (h : cond c A none = some o) : c = true ∧ A = some o := by
  cases c with
  | true => exact ⟨rfl, h⟩
  | false => cases h
theorem z_cnd2 {c : Bool} {A : z_Res} {o : z_Out × z_St} (h : cond c none A = some o) : c = false ∧ A = some o := by
  cases c with
  | false => exact ⟨rfl, h⟩
  | true => cases h
theorem z_okO_get {own : String} {ix : Nat} {ops : List Nat} (h : z_okO own (.getfield ix) ops = true) : ∃ c k t v nest ti, ops = [c, k, t, v, nest, ti] ∧ ((c = 10 ∧ ((t = 4 ∧ z_okW own ix "letters" "Ljava/lang/String;" nest ti = true) ∨ (t = 5 ∧ z_okW own ix "value" "I" nest ti = true))) ∨ (c < 10 ∧ k < z_nf c ∧ z_ftg c k = (t, v) ∧ z_okF own ix c k nest ti = true)) := by
  unfold z_okO at h
  dsimp only at h
  split at h
  · rename_i c k t v nest ti
    refine ⟨c, k, t, v, nest, ti, rfl, ?_⟩
    cases hc : Nat.beq c 10 with
    | true =>
      rw [hc] at h
      refine Or.inl ⟨Nat.eq_of_beq_eq_true hc, ?_⟩
      cases ht : Nat.beq t 4 with
      | true => rw [ht] at h; exact Or.inl ⟨Nat.eq_of_beq_eq_true ht, h⟩
      | false =>
        rw [ht] at h
        simp only [cond_true, cond_false, Bool.and_eq_true] at h
        exact Or.inr ⟨Nat.eq_of_beq_eq_true h.1, h.2⟩
    | false =>
      rw [hc] at h
      simp only [cond_false, Bool.and_eq_true, decide_eq_true_eq] at h
      exact Or.inr ⟨Nat.blt_eq.mp h.1.1.1, Nat.blt_eq.mp h.1.1.2, h.1.2, h.2⟩
  · cases h
theorem z_okO_put {own : String} {ix : Nat} {ops : List Nat} (h : z_okO own (.putfield ix) ops = true) : ∃ c k t v nest ti, ops = [c, k, t, v, nest, ti] ∧ c < 10 ∧ k < z_nf c ∧ z_ftg c k = (t, v) ∧ z_okF own ix c k nest ti = true ∧ (z_TT c k).2.2.2 = false ∧ (t = 0 → parseFieldDescriptor (z_TT c k).2.2.1 = some (z_tyk t v)) ∧ (t ≠ 0 → ((parseFieldDescriptor (z_TT c k).2.2.1).map fun f => match f with | .object _ => true | _ => false) = some true) := by
  unfold z_okO at h
  dsimp only at h
  split at h
  · rename_i c k t v nest ti
    simp only [Bool.and_eq_true, decide_eq_true_eq, Bool.not_eq_true'] at h
    obtain ⟨⟨⟨⟨⟨h1, h2⟩, h3⟩, h4⟩, h5⟩, h6⟩ := h
    refine ⟨c, k, t, v, nest, ti, rfl, Nat.blt_eq.mp h1, Nat.blt_eq.mp h2, h3, h4, h5, ?_, ?_⟩
    · intro ht; subst ht; simpa using h6
    · intro ht
      have hb : Nat.beq t 0 = false := by
        cases hq : Nat.beq t 0 with
        | false => rfl
        | true => exact absurd (Nat.eq_of_beq_eq_true hq) ht
      rw [hb] at h6
      exact of_decide_eq_true h6
  · cases h
section ZM
variable {p : Program} {l : Launch} {e : Env} {R : Room} {s : State} {m : MethodId} {args : Array Value} {below : List Frame} {meth : Method} {c : Code} {Q : State → Prop} {B : Nat} {D : va_G} {ρ : Nat → Nat} {cA : Nat → ClassId} {nL : Nat}
variable {cc : ByteArray} {pc z : Nat} {L : z_Lo} {st r : List Value} {S : z_St} {own : String} {dd : Nat} {lm : Bool} {rt : Option FieldType} {hd0 : List (Nat × Int32)} {E : z_Ev} {K go : z_K} {out : z_Out × z_St}
theorem z_okF_link {i c k nest ti : Nat} (hts : ∀ w ∈ z_tb, w.before args s = true) (hnw : ∀ w ∈ z_nw, va_Nw w s) (h : z_okF own i c k nest ti = true) : (Cond.fieldLink own i (z_TT c k).1 (z_TT c k).2.1 (z_TT c k).2.2.1).before args s = true ∨ ∃ host, (Cond.fieldLinkNest own i (z_TT c k).1 (z_TT c k).2.1 (z_TT c k).2.2.1 host).before args s = true := by
  unfold z_okF at h
  cases hn : Nat.beq nest 0 with
  | true => rw [hn] at h; exact Or.inl (hts _ (z_inT_ok h))
  | false => rw [hn] at h; exact Or.inr ⟨_, va_Nw.use rfl (hnw _ (z_inN_ok h))⟩
theorem z_okW_link {i nest ti : Nat} {n d : String} (hts : ∀ w ∈ z_tb, w.before args s = true) (hnw : ∀ w ∈ z_nw, va_Nw w s) (h : z_okW own i n d nest ti = true) : (Cond.fieldLink own i "SlipRoom$Word" n d).before args s = true ∨ ∃ host, (Cond.fieldLinkNest own i "SlipRoom$Word" n d host).before args s = true := by
  unfold z_okW at h
  cases hn : Nat.beq nest 0 with
  | true => rw [hn] at h; exact Or.inl (hts _ (z_inT_ok h))
  | false => rw [hn] at h; exact Or.inr ⟨_, va_Nw.use rfl (hnw _ (z_inN_ok h))⟩
theorem zm_get (hctx : z_Ctx p l R s m args c B D ρ cA nL cc own dd) {ix len : Nat} {ops : List Nat} (hd : decode cc pc = .ok (.getfield ix, 3)) (ho : z_okO own (.getfield ix) ops = true) (h : z_o_getfield ops go pc z L st S = some out)
    (hgo : ∀ st', go (pc + 3) z L st' S = some out → z_J p l e R s m args below meth c Q B D ρ cA nL (pc + 3) z L st' S) : z_J p l e R s m args below meth c Q B D ρ cA nL pc z L st S := by
  obtain ⟨hx, hb, hml, hown, hts, hE, hAp, hRf, hRl⟩ := hctx
  obtain ⟨cc0, k, t, v, nest, ti, rfl, hcase⟩ := z_okO_get ho
  unfold z_o_getfield at h
  split at h
  · dsimp only at h
    rename_i a r0
    have hz9 := z_cnd h
    clear h
    obtain ⟨hO, h⟩ := hz9
    rcases hcase with ⟨rfl, hW⟩ | ⟨hc, hk, hf, hF⟩
    · obtain ⟨j, hj, rfl⟩ : ∃ j : Nat, j < 17 ∧ a = 1000 + j := by
        simp only [z_isO, Bool.and_eq_true] at hO
        have h1 : (1000 : Nat) ≤ a := Nat.le_of_ble_eq_true hO.1
        have h2 : Nat.lt a 1017 := Nat.blt_eq.mp hO.2
        exact ⟨a - 1000, Nat.sub_lt_left_of_lt_add h1 h2, (Nat.add_sub_cancel' h1).symm⟩
      obtain ⟨-, -, -, -, -, hlet, hval, -⟩ := hE.2.2.1
      rcases hW with ⟨rfl, hW⟩ | ⟨rfl, hW⟩
      · refine zj_getW hx hb (v := .ref (1000 + j + 200)) ?_ hown (z_okW_link hts hE.2.1 hW) hd (hgo _ h)
        have h9 := hlet j hj
        rw [show 1200 + j = 1000 + j + 200 by omega] at h9
        exact h9
      · refine zj_getW hx hb (v := .int (z_wv.getD (1000 + j - 1000) 0)) ?_ hown (z_okW_link hts hE.2.1 hW) hd (hgo _ h)
        have h9 := hval j hj
        rw [Nat.add_sub_cancel_left]
        exact h9
    · have ht := z_ftg_le cc0 hc k hk
      rw [hf] at ht
      have ht4 : t = 0 ∨ t = 1 ∨ t = 2 ∨ t = 3 := by have h9 : t ≤ 3 := ht; omega
      have hg : ∀ {w : Value}, z_fv ρ S.1 a cc0 k = z_v ρ w → z_J p l e R s m args below meth c Q B D ρ cA nL (pc + 3) z L (w :: r0) S → z_J p l e R s m args below meth c Q B D ρ cA nL pc z L (.ref a :: r0) S := fun hv hj => zj_get hx hb hts (z_cls_TT cc0 hc) (z_uw cc0 hc) hown hE.1 hc hO hk hd (z_okF_link hts hE.2.1 hF) hv hj
      rcases ht4 with rfl | rfl | rfl | rfl
      · exact hg (w := .int (S.1 a k)) (by simp [z_fv, hf, z_v]) (hgo _ h)
      · have hz9 := z_cnd2 h
        clear h
        obtain ⟨hne, h⟩ := hz9
        have hne2 : ¬ S.1 a k = -1 := by simpa using hne
        exact hg (w := .ref (S.1 a k).toNatClampNeg) (by simp [z_fv, hf, z_v, z_rv, hne2]) (hgo _ h)
      · exact hg (w := .ref (a + v)) (by simp [z_fv, hf, z_v]) (hgo _ h)
      · exact hg (w := .ref v) (by simp [z_fv, hf, z_v]) (hgo _ h)
  · cases h
theorem zm_put (hctx : z_Ctx p l R s m args c B D ρ cA nL cc own dd) {ix : Nat} {ops : List Nat} (hd : decode cc pc = .ok (.putfield ix, 3)) (ho : z_okO own (.putfield ix) ops = true) (h : z_o_putfield ops go pc z L st S = some out)
    (hgo : ∀ st' a k x, a < z_n → go (pc + 3) z L st' (z_w1 S.1 a k x, S.2) = some out → z_J p l e R s m args below meth c Q B D ρ cA nL (pc + 3) z L st' (z_w1 S.1 a k x, S.2)) : z_J p l e R s m args below meth c Q B D ρ cA nL pc z L st S := by
  obtain ⟨hx, hb, hml, hown, hts, hE, hAp, hRf, hRl⟩ := hctx
  obtain ⟨cc0, k, t, v, nest, ti, rfl, hc, hk, hf, hF, hfin, hp0, hp1⟩ := z_okO_put ho
  unfold z_o_putfield at h
  dsimp only at h
  split at h
  · rename_i x a r0
    have hz9 := z_cnd h
    clear h
    obtain ⟨hO, h⟩ := hz9
    simp only [Bool.and_eq_true] at hO
    obtain ⟨⟨hO, ht⟩, hnb⟩ := hO
    obtain rfl := Nat.eq_of_beq_eq_true ht
    have hty : z_ty cc0 k = z_tyk 0 v := Option.some.inj ((z_ty_ok cc0 hc k hk).symm.trans (hp0 rfl))
    refine zj_put hx hb (v := .int x) (x := x) (ty := z_ty cc0) hts (z_cls_TT cc0 hc) (z_uw cc0 hc) (z_ty_ok cc0 hc) (z_nm_ok cc0 hc) hown hE.1 hAp hc hO hk hd (z_okF_link hts hE.2.1 hF) hfin ?_ ?_ ?_ (hgo _ _ _ _ (z_isO_ok hc hO).1 h)
    · simp [z_fv, hf, z_v, z_w1_at, upd]
    · rw [hty]
      cases v with
      | zero => rfl
      | succ v =>
        simp only [z_nb, Bool.or_eq_true, decide_eq_true_eq] at hnb
        rcases hnb with rfl | rfl <;> rfl
    · rw [hty]
      cases v with
      | zero => rfl
      | succ v =>
        simp only [z_nb, Bool.or_eq_true, decide_eq_true_eq] at hnb
        rcases hnb with rfl | rfl <;> rfl
  · rename_i b a r0
    have hz9 := z_cnd h
    clear h
    obtain ⟨hO, h⟩ := hz9
    simp only [Bool.and_eq_true] at hO
    obtain ⟨⟨hO, ht⟩, hnb⟩ := hO
    obtain rfl := Nat.eq_of_beq_eq_true ht
    have hb2 : Nat.lt b 2000 := Nat.blt_eq.mp hnb
    have hb3 : Nat.lt b (2 ^ 31) := Nat.lt_trans hb2 (by decide)
    have hty := z_ty_ok cc0 hc k hk
    have hp := hp1 (by decide)
    rw [hty] at hp
    have hcl : (nI b).toNatClampNeg = b := nI_clamp hb3
    have hne : ¬ nI b = -1 := by
      intro q
      have := congrArg Int32.toInt q
      rw [nI_toInt hb3] at this
      have h2 : (-1 : Int32).toInt = -1 := by decide
      rw [h2] at this
      omega
    refine zj_put hx hb (v := .ref b) (x := nI b) (ty := z_ty cc0) hts (z_cls_TT cc0 hc) (z_uw cc0 hc) (z_ty_ok cc0 hc) (z_nm_ok cc0 hc) hown hE.1 hAp hc hO hk hd (z_okF_link hts hE.2.1 hF) hfin ?_ ?_ ?_ (hgo _ _ _ _ (z_isO_ok hc hO).1 h)
    · simp [z_fv, hf, z_v, z_w1_at, upd, z_rv, hne, hcl]
    · cases hq : z_ty cc0 k with
      | object n => rfl
      | _ => rw [hq] at hp; cases hp
    · cases hq : z_ty cc0 k with
      | object n => rfl
      | _ => rw [hq] at hp; cases hp
  · cases h
end ZM
