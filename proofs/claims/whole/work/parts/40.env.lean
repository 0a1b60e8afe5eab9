/-! what the Statement gives of the start: tables, words, texts -/
def z_wt (j : Nat) : Term := .static "SlipRoom$Word" (z_wn.getD j "") "LSlipRoom$Word;"
def z_kt (j : Nat) : Term := .string "SlipRoom$Word" (([98, 104, 107, 110, 113, 116, 119, 122, 125, 128, 131, 134, 137, 140, 143, 146, 149] : List Nat).getD j 0)
def z_vt (j : Nat) : Term := .field (z_kt j) "java/lang/String" "value" "[B"
noncomputable def z_fl : List Cond := flatC (Jvm.Cond.and given_1 narrow_1)
theorem zf_at {i : Nat} {w : Cond} (h : z_fl[i]? = some w) : w ∈ z_fl := List.mem_of_getElem? h
def zf_w : List Nat := [4, 37, 42, 48, 55, 63, 72, 82, 118, 105, 93, 132, 147, 163, 180, 198, 217]
def zf_k : List Nat := [840, 844, 853, 863, 874, 885, 894, 903, 929, 921, 913, 936, 945, 954, 963, 972, 981]
theorem zf_1 : ∀ j, j < 17 → Cond.exactly (z_wt j) "SlipRoom$Word" ∈ z_fl := fun j hj => zf_at ((by decide +kernel : ∀ j, j < 17 → z_fl[zf_w.getD j 0]? = some (Cond.exactly (z_wt j) "SlipRoom$Word")) j hj)
theorem zf_2 : ∀ j, j < 17 → Cond.eq (.field (z_wt j) "java/lang/Enum" "ordinal" "I") (.int (Int32.ofNat j)) ∈ z_fl := fun j hj => zf_at ((by decide +kernel : ∀ j, j < 17 → z_fl[zf_w.getD j 0 + 1]? = some (Cond.eq (.field (z_wt j) "java/lang/Enum" "ordinal" "I") (.int (Int32.ofNat j)))) j hj)
theorem zf_3 : ∀ j, j < 17 → Cond.eq (.field (z_wt j) "SlipRoom$Word" "letters" "Ljava/lang/String;") (z_kt j) ∈ z_fl := fun j hj => zf_at ((by decide +kernel : ∀ j, j < 17 → z_fl[zf_w.getD j 0 + 2]? = some (Cond.eq (.field (z_wt j) "SlipRoom$Word" "letters" "Ljava/lang/String;") (z_kt j))) j hj)
theorem zf_4 : ∀ j, j < 17 → Cond.eq (.field (z_wt j) "SlipRoom$Word" "value" "I") (.int (z_wv.getD j 0)) ∈ z_fl := fun j hj => zf_at ((by decide +kernel : ∀ j, j < 17 → z_fl[zf_w.getD j 0 + 3]? = some (Cond.eq (.field (z_wt j) "SlipRoom$Word" "value" "I") (.int (z_wv.getD j 0)))) j hj)
theorem zf_5 : Cond.isRef (.static Bundle.tN "UNASSIGNED_STACK" Bundle.steD) ∈ z_fl := by decide +kernel
theorem zf_6 : Cond.isRef (.static Bundle.tN "SUPPRESSED_SENTINEL" Bundle.listD) ∈ z_fl := by decide +kernel
theorem zf_7 : Cond.arrayOf (.static "SlipRoom$Word" "ALL" "[LSlipRoom$Word;") (.object "SlipRoom$Word") ∈ z_fl := by decide +kernel
theorem zf_8 : Cond.eq (.length (.static "SlipRoom$Word" "ALL" "[LSlipRoom$Word;")) (.int (Int32.ofNat 17)) ∈ z_fl := by decide +kernel
theorem zf_9 : ∀ j, j < 17 → Cond.eq (.elem (.static "SlipRoom$Word" "ALL" "[LSlipRoom$Word;") (.int (Int32.ofNat j))) (z_wt j) ∈ z_fl := fun j hj => zf_at ((by decide +kernel : ∀ j, j < 17 → z_fl[15 + j]? = some (Cond.eq (.elem (.static "SlipRoom$Word" "ALL" "[LSlipRoom$Word;") (.int (Int32.ofNat j))) (z_wt j))) j hj)
theorem zf_10 : Cond.eq (.static "java/lang/String" "COMPACT_STRINGS" "Z") (.int 1) ∈ z_fl := by decide +kernel
theorem zf_11 : Cond.isRef (.static "jdk/internal/util/Preconditions" "SIOOBE_FORMATTER" "Ljava/util/function/BiFunction;") ∈ z_fl := by decide +kernel
theorem zf_12 : Cond.not (.castable "java/lang/IllegalArgumentException" "java/util/NoSuchElementException") ∈ z_fl := by decide +kernel
theorem zf_13 : ∀ j, j < 17 → Cond.exactly (z_kt j) "java/lang/String" ∈ z_fl := fun j hj => zf_at ((by decide +kernel : ∀ j, j < 17 → z_fl[zf_k.getD j 0 + 0]? = some (Cond.exactly (z_kt j) "java/lang/String")) j hj)
theorem zf_14 : ∀ j, j < 17 → Cond.eq (.field (z_kt j) "java/lang/String" "coder" "B") (.int 0) ∈ z_fl := fun j hj => zf_at ((by decide +kernel : ∀ j, j < 17 → z_fl[zf_k.getD j 0 + 1]? = some (Cond.eq (.field (z_kt j) "java/lang/String" "coder" "B") (.int 0))) j hj)
theorem zf_15 : ∀ j, j < 17 → Cond.arrayOf (z_vt j) .byte ∈ z_fl := fun j hj => zf_at ((by decide +kernel : ∀ j, j < 17 → z_fl[zf_k.getD j 0 + 2]? = some (Cond.arrayOf (z_vt j) .byte)) j hj)
theorem zf_16 : ∀ j, j < 17 → Cond.eq (.length (z_vt j)) (.int (Int32.ofNat ((z_tx.map List.length).getD j 0))) ∈ z_fl := fun j hj => zf_at ((by decide +kernel : ∀ j, j < 17 → z_fl[zf_k.getD j 0 + 3]? = some (Cond.eq (.length (z_vt j)) (.int (Int32.ofNat ((z_tx.map List.length).getD j 0))))) j hj)
theorem zf_17 : ∀ i, i < 17 → ∀ j, j < (z_tx.map List.length).getD i 0 → Cond.eq (.elem (z_vt i) (.int (Int32.ofNat j))) (.int ((z_tx.getD i []).getD j 0)) ∈ z_fl := fun i hi j hj => zf_at ((by decide +kernel : ∀ i, i < 17 → ∀ j, j < (z_tx.map List.length).getD i 0 → z_fl[zf_k.getD i 0 + 4 + j]? = some (Cond.eq (.elem (z_vt i) (.int (Int32.ofNat j))) (.int ((z_tx.getD i []).getD j 0)))) i hi j hj)
theorem zf_18 : ∀ q ∈ z_strs ++ z_strC, Cond.eq (.string "SlipRoomModel" q.1) (z_kt (q.2.2 - 1200)) ∈ z_fl ∧ 1200 ≤ q.2.2 ∧ q.2.2 < 1217 := by decide +kernel
theorem zf_19 : ∀ q ∈ z_msgs, Cond.exactly (.string "SlipRoom" q.1) "java/lang/String" ∈ z_fl := by decide +kernel
theorem zt_1 : ∀ j, j < 17 → Cond.laysStatic "SlipRoom$Word" (z_wn.getD j "") "LSlipRoom$Word;" ∈ lw_tbl := by decide +kernel
theorem zt_2 : Cond.initialized "SlipRoom$Word" ∈ lw_tbl := by decide +kernel
theorem zt_3 : Cond.laysStatic Bundle.tN "UNASSIGNED_STACK" Bundle.steD ∈ lw_tbl := by decide +kernel
theorem zt_4 : Cond.laysStatic Bundle.tN "SUPPRESSED_SENTINEL" Bundle.listD ∈ lw_tbl := by decide +kernel
theorem zt_5 : Cond.initialized Bundle.tN ∈ lw_tbl := by decide +kernel
theorem zt_6 : Cond.laysStatic "SlipRoom$Word" "ALL" "[LSlipRoom$Word;" ∈ lw_tbl := by decide +kernel
theorem zt_7 : Cond.laysStatic "java/lang/String" "COMPACT_STRINGS" "Z" ∈ lw_tbl := by decide +kernel
theorem zt_8 : Cond.initialized "java/lang/String" ∈ lw_tbl := by decide +kernel
theorem zt_9 : Cond.laysStatic "jdk/internal/util/Preconditions" "SIOOBE_FORMATTER" "Ljava/util/function/BiFunction;" ∈ lw_tbl := by decide +kernel
theorem zt_10 : Cond.initialized "jdk/internal/util/Preconditions" ∈ lw_tbl := by decide +kernel
theorem zt_11 : ∀ q ∈ z_strs ++ z_strC, Cond.stringRef "SlipRoomModel" q.1 q.2.1 ∈ lw_tbl := by decide +kernel
theorem zt_12 : ∀ q ∈ z_msgs, Cond.stringRef "SlipRoom" q.1 q.2 ∈ lw_tbl := by decide +kernel
theorem zt_13 : Cond.arrayOver (.object "java/lang/String") ∈ lw_tbl := by decide +kernel
theorem zt_in {w : Cond} (h : w ∈ z_tb) : w ∈ lw_tbl := (List.mem_filter.mp h).1
theorem z_arr_of {args : Array Value} {s : State} {ty : FieldType} (h : (Cond.arrayClass ty).before args s = true) : ∃ cA, s.vm.findClass ("[" ++ ty.toString) = some cA ∧ ArrOfT s cA ty := by
  obtain ⟨c, k, comp, h1, h2, h3⟩ := Cond.arrayClass_spec (args := args) (first := s) (o := none) (s := s) (idx := []) h
  exact ⟨c, h1, fun n z => ⟨fun k h => (by cases h), k, h2, comp, h3⟩⟩
theorem z_OF_fun {o n d : String} {v v' : Value} {t : Nat} {A : Nat → Prop} {U : State} {H : Heap} (h : va_OF o n d v t A U H) (h2 : va_OF o n d v' t A U H) : v = v' := by
  obtain ⟨cf, k, i, f, cell, a1, a2, a3, a4, a5, a6⟩ := h
  obtain ⟨cf', k', i', f', cell', b1, b2, b3, b4, b5, b6⟩ := h2
  have e1 := Option.some.inj (a1.symm.trans b1)
  have e2 := Option.some.inj (a3.symm.trans b3)
  cases e1
  cases e2
  exact Option.some.inj (a5.symm.trans b5)
theorem z_T_fun {ty ty' : FieldType} {t N N' : Nat} {f f' : Nat → Value} {A : Nat → Prop} {U : State} {H : Heap} (hN : N < 100) (hN' : N' < 100) (h : va_T ty t N f A U H) (h2 : va_T ty' t N' f' A U H) : N = N' ∧ ∀ j, j < N → f j = f' j := by
  obtain ⟨cell, a1, a2, a3, a4, a5, a6, a7⟩ := h
  obtain ⟨cell', b1, b2, b3, b4, b5, b6, b7⟩ := h2
  have e := Option.some.inj (a1.symm.trans b1)
  subst e
  have e2 : Int32.ofNat N = Int32.ofNat N' := a5.symm.trans b5
  have e3 : N = N' := (nI_eq (by omega) (by omega)).mp e2
  subst e3
  exact ⟨rfl, fun j hj => Option.some.inj ((a6 j hj).symm.trans (b6 j hj))⟩
theorem z_tx_ne : ∀ i, i < 17 → ∀ j, j < 17 → (z_tx.map List.length).getD i 0 = (z_tx.map List.length).getD j 0 → (∀ k, k < (z_tx.map List.length).getD i 0 → (z_tx.getD i []).getD k 0 = (z_tx.getD j []).getD k 0) → i = j := by decide +kernel
theorem z_tx_ln : ∀ i, i < 17 → (z_tx.map List.length).getD i 0 < 100 := by decide +kernel
section ZEN
variable {args : Array Value} {s : State}
theorem z_K_of (hts : ∀ w ∈ lw_tbl, w.before args s = true) : ∃ (D : va_G) (cA : Nat → ClassId), va_K D z_cls (z_tys cA) s := by
  have h0 : ∀ c : Nat, ∃ q : ClassId × (Nat → Nat), c < 10 → u_Kn s (z_own.getD c "") (z_TT c) (z_nf c) q.1 q.2 := by
    intro c
    by_cases hc : c < 10
    · have hi : Cond.instantiable (z_own.getD c "") (z_nf c) ∈ z_tb := by
        have hc2 : c = 0 ∨ c = 1 ∨ c = 2 ∨ c = 3 ∨ c = 4 ∨ c = 5 ∨ c = 6 ∨ c = 7 ∨ c = 8 ∨ c = 9 := by omega
        rcases hc2 with rfl | rfl | rfl | rfl | rfl | rfl | rfl | rfl | rfl | rfl
        · exact zki_s0
        · exact zki_s1
        · exact zki_s2
        · exact zki_s3
        · exact zki_s4
        · exact zki_s5
        · exact zki_s6
        · exact zki_s7
        · exact zki_s8
        · exact zki_s9
      obtain ⟨cC, iS, h⟩ := u_known (args := args) (s := s) (ws := lw_tbl) hts (fun w hw => zt_in (z_uw c hc w hw)) (hts _ (zt_in hi))
      exact ⟨(cC, iS), fun _ => h⟩
    · exact ⟨(default, fun _ => 0), fun h => absurd h hc⟩
  obtain ⟨ad, had⟩ := Classical.axiomOfChoice h0
  obtain ⟨c1, a1, b1⟩ := z_arr_of (hts _ (zt_in zki_aint))
  obtain ⟨c2, a2, b2⟩ := z_arr_of (hts _ (zt_in zki_abyte))
  obtain ⟨c3, a3, b3⟩ := z_arr_of (hts _ (zt_in zki_aboolean))
  obtain ⟨c4, a4, b4⟩ := z_arr_of (hts _ (zt_in zki_along))
  obtain ⟨comp, c5, k5, f1, f2, f3, f4, f5⟩ := Cond.arrayOver_spec (args := args) (first := s) (o := none) (s := s) (idx := []) (hts _ zt_13)
  refine ⟨(fun c => (ad c).1, fun c => (ad c).2), fun t => match t with | 1 => c1 | 2 => c2 | 3 => c3 | 4 => c4 | _ => c5, ⟨fun c q hq => ?_, fun k q hq => ?_⟩⟩
  · have hc : c < 10 := (List.getElem?_eq_some_iff.mp hq).1
    rw [z_cls_TT c hc] at hq
    cases hq
    exact had c hc
  · have hk : k < 5 := (List.getElem?_eq_some_iff.mp hq).1
    have hk2 : k = 0 ∨ k = 1 ∨ k = 2 ∨ k = 3 ∨ k = 4 := by omega
    rcases hk2 with rfl | rfl | rfl | rfl | rfl
    · cases hq; exact ⟨b1, a1⟩
    · cases hq; exact ⟨b2, a2⟩
    · cases hq; exact ⟨b3, a3⟩
    · cases hq; exact ⟨b4, a4⟩
    · cases hq; exact ⟨fun n z => ⟨fun k h => (by cases h), k5, f3, comp, f4⟩, k5, comp, f3, f4, f1, f5⟩
theorem z_S_of (hs : ∀ w ∈ z_fl, w.before args s = true) {A : Nat → Prop} (hA : ∀ a : Nat, a < s.heap.size → ¬ A a) : ∃ adK adV : Nat → Nat, vk_S 17 (z_tx.map List.length) z_tx adK adV A s s.heap ∧ ∀ i : Nat, i < 17 → (z_kt i).eval args s none [] s = some (.ref (adK i)) := by
  have h0 : ∀ i : Nat, ∃ q : Nat × Nat, i < 17 → (z_kt i).eval args s none [] s = some (.ref q.1) ∧ va_O "java/lang/String" q.1 A s s.heap ∧ va_OF "java/lang/String" "coder" "B" (.int 0) q.1 A s s.heap ∧ va_OF "java/lang/String" "value" "[B" (.ref q.2) q.1 A s s.heap ∧ va_T .byte q.2 ((z_tx.map List.length).getD i 0) (fun j => .int ((z_tx.getD i []).getD j 0)) A s s.heap := by
    intro i
    by_cases hi : i < 17
    · obtain ⟨a, c, cA, kA, q1, q2, q3, q4, q5, q6, -⟩ := Cond.exactly_spec (args := args) (first := s) (o := none) (s := s) (idx := []) (t := z_kt i) (cls := "java/lang/String") (hs _ (zf_13 i hi))
      obtain ⟨t, ht, hT⟩ := va_Tof (f := fun j => .int ((z_tx.getD i []).getD j 0)) (A := A) (Nat.lt_trans (z_tx_ln i hi) (by decide)) (hs _ (zf_15 i hi)) (va_eqt (hs _ (zf_16 i hi))) (fun j hj => va_eqt (hs _ (zf_17 i hi j hj))) hA
      exact ⟨(a, t), fun _ => ⟨q1, ⟨cA, q3, q5, by rw [q6]; exact q2, hA a (Array.getElem?_eq_some_iff.mp q3).1⟩, vk_OFof q1 (va_eqt (hs _ (zf_14 i hi))) hA, vk_OFof q1 ht hA, hT⟩⟩
    · exact ⟨(0, 0), fun h => absurd h hi⟩
  obtain ⟨ad, had⟩ := Classical.axiomOfChoice h0
  refine ⟨fun i => (ad i).1, fun i => (ad i).2, ⟨fun i hi => (had i hi).2, fun i j hi hj e => ?_⟩, fun i hi => (had i hi).1⟩
  have h1 := (had i hi).2.2.2.1
  have h2 := (had j hj).2.2.2.1
  have e : (ad i).1 = (ad j).1 := e
  rw [e] at h1
  have hv : (ad i).2 = (ad j).2 := by
    have := z_OF_fun h1 h2
    simpa using this
  have g1 := (had i hi).2.2.2.2
  have g2 := (had j hj).2.2.2.2
  rw [hv] at g1
  obtain ⟨r1, r2⟩ := z_T_fun (z_tx_ln i hi) (z_tx_ln j hj) g1 g2
  exact z_tx_ne i hi j hj r1 (fun k hk => by
    have := r2 k hk
    simpa using this)
def z_ro (B tA sI b : Nat) (w k v : Nat → Nat) (a : Nat) : Nat := if a < 117 then B + a else if a < 1100 then w (a - 1000) else if a = 1100 then tA else if a < 1250 then k (a - 1200) else if a < 1299 then v (a - 1250) else if a = 1299 then sI else b
theorem z_kE_of (hts : ∀ w ∈ lw_tbl, w.before args s = true) (hgv : (Jvm.Cond.and given_1 narrow_1).before args s = true) (b : Nat) : ∃ (D : va_G) (cA : Nat → ClassId) (ρ : Nat → Nat), z_kE s.heap.size D cA ρ s ∧ (∀ a, a < z_n → ρ a = s.heap.size + a) ∧ ρ 1300 = b := by
  have hs : ∀ w ∈ z_fl, w.before args s = true := flat_of_before _ hgv
  have hA : ∀ a : Nat, a < s.heap.size → ¬ s.heap.size ≤ a := fun a h => Nat.not_le.mpr h
  obtain ⟨D, cA, hK⟩ := z_K_of hts
  obtain ⟨adK, adV, hS, hSe⟩ := z_S_of hs (A := fun q => s.heap.size ≤ q) hA
  have h0 : ∀ j : Nat, ∃ a : Nat, j < 17 → (z_wt j).eval args s none [] s = some (.ref a) := by
    intro j
    by_cases hj : j < 17
    · obtain ⟨a, c, cA, kA, q1, -⟩ := Cond.exactly_spec (args := args) (first := s) (o := none) (s := s) (idx := []) (t := z_wt j) (cls := "SlipRoom$Word") (hs _ (zf_1 j hj))
      exact ⟨a, fun _ => q1⟩
    · exact ⟨0, fun h => absurd h hj⟩
  obtain ⟨w, hw⟩ := Classical.axiomOfChoice h0
  obtain ⟨tA, htA, hTA⟩ := va_Tof (tm := .static "SlipRoom$Word" "ALL" "[LSlipRoom$Word;") (ty := .object "SlipRoom$Word") (N := 17) (f := fun j => .ref (w j)) (A := fun q => s.heap.size ≤ q) (by decide) (hs _ zf_7) (va_eqt (hs _ zf_8)) (fun j hj => Cond.eq_refs (hs _ (zf_9 j hj)) (hw j hj) rfl) hA
  obtain ⟨sv, hsv, hsr⟩ := Cond.isRef_spec (args := args) (first := s) (o := none) (s := s) (idx := []) (hs _ zf_11)
  obtain ⟨sI, hsI⟩ : ∃ sI : Nat, sv = .null ∨ sv = .ref sI := by
    cases sv with
    | null => exact ⟨0, Or.inl rfl⟩
    | ref a => exact ⟨a, Or.inr rfl⟩
    | _ => cases hsr
  have e1 : ∀ j, j < 17 → z_ro s.heap.size tA sI b w adK adV (1000 + j) = w j := fun j hj => by
    unfold z_ro
    rw [if_neg (by omega), if_pos (by omega), Nat.add_sub_cancel_left]
  have e2 : z_ro s.heap.size tA sI b w adK adV 1100 = tA := rfl
  have e3 : ∀ j, j < 17 → z_ro s.heap.size tA sI b w adK adV (1200 + j) = adK j := fun j hj => by
    unfold z_ro
    rw [if_neg (by omega), if_neg (by omega), if_neg (by omega), if_pos (by omega), Nat.add_sub_cancel_left]
  have e4 : ∀ j, j < 17 → z_ro s.heap.size tA sI b w adK adV (1250 + j) = adV j := fun j hj => by
    unfold z_ro
    rw [if_neg (by omega), if_neg (by omega), if_neg (by omega), if_neg (by omega), if_pos (by omega), Nat.add_sub_cancel_left]
  have e5 : z_ro s.heap.size tA sI b w adK adV 1299 = sI := rfl
  have e6 : z_ro s.heap.size tA sI b w adK adV 1300 = b := rfl
  have e7 : ∀ a, a < z_n → z_ro s.heap.size tA sI b w adK adV a = s.heap.size + a := fun a ha => if_pos ha
  generalize hρ : z_ro s.heap.size tA sI b w adK adV = ρ at e1 e2 e3 e4 e5 e6 e7
  refine ⟨D, cA, ρ, ⟨⟨hK, fun w hw => ?_, ?_, ?_, ?_, va_Nc.of (hs _ zf_12), fun w hw => ?_⟩, va_AO.of (hts _ zt_13), fun q hq => ?_⟩, e7, e6⟩
  · have hm := List.mem_filter.mp hw
    have hb := hts _ hm.1
    have hn : z_isN w = true := hm.2
    cases w with
    | fieldLinkNest a i b n d h => exact va_Nw.of rfl hb
    | methodLinkNest a i x h => exact va_Nw.of rfl hb
    | _ => cases hn
  · refine ⟨vx_Zqof (hts _ zt_3) (hts _ zt_5) (hs _ zf_5) hA, vx_Zqof (hts _ zt_4) (hts _ zt_5) (hs _ zf_6) hA, fun j hj => ?_, ?_, ?_, fun j hj => ?_, fun j hj => ?_, ?_, va_Zof (hts _ zt_7) (hts _ zt_8) (va_eqt (hs _ zf_10)) hA, ?_⟩
    · rw [e1 j hj]
      exact va_Zof (hts _ (zt_1 j hj)) (hts _ zt_2) (hw j hj) hA
    · rw [e2]
      exact va_Zof (hts _ zt_6) (hts _ zt_2) htA hA
    · rw [e2]
      obtain ⟨cell, a1, a2, a3, a4, a5, a6, a7⟩ := hTA
      exact ⟨cell, a1, a2, a3, a4, a5, fun j hj => by
        show _ = some (Value.ref (ρ (1000 + j)))
        rw [a6 j hj, e1 j hj], a7⟩
    · rw [e1 j hj, e3 j hj]
      exact vk_OFof (hw j hj) (Cond.eq_refs (hs _ (zf_3 j hj)) (hSe j hj) rfl) hA
    · rw [e1 j hj]
      exact vk_OFof (hw j hj) (va_eqt (hs _ (zf_4 j hj))) hA
    · obtain ⟨g1, g2⟩ := hS
      refine ⟨fun i hi => ?_, fun i j hi hj e => ?_⟩
      · dsimp only
        rw [e3 i hi, e4 i hi]
        exact g1 i hi
      · dsimp only at e
        rw [e3 i hi, e3 j hj] at e
        exact g2 i j hi hj e
    · rcases hsI with rfl | rfl
      · exact Or.inl (va_Zof (hts _ zt_9) (hts _ zt_10) hsv hA)
      · rw [e5]
        exact Or.inr (va_Zof (hts _ zt_9) (hts _ zt_10) hsv hA)
  · refine ⟨fun q hq => ?_, fun q hq => ?_⟩
    · obtain ⟨a, c, cA, kA, q1, -⟩ := Cond.exactly_spec (args := args) (first := s) (o := none) (s := s) (idx := []) (hs _ (zf_19 q hq))
      exact ⟨a, vk_R.of (A := #[]) (hts _ (zt_12 q hq)) q1⟩
    · obtain ⟨h1, h2, h3⟩ := zf_18 q (List.mem_append_left _ hq)
      have h4 := Cond.eq_refs (hs _ h1) (hSe (q.2.2 - 1200) (by omega)) rfl
      rw [show ρ q.2.2 = adK (q.2.2 - 1200) by rw [← e3 _ (by omega), Nat.add_sub_cancel' h2]]
      exact vk_R.of (A := #[]) (hts _ (zt_11 q (List.mem_append_left _ hq))) h4
  · intro i j hi hj e
    rw [e1 i hi, e1 j hj] at e
    have g1 := vk_OFof (A := fun q => s.heap.size ≤ q) (hw i hi) (va_eqt (hs _ (zf_2 i hi))) hA
    have g2 := vk_OFof (A := fun q => s.heap.size ≤ q) (hw j hj) (va_eqt (hs _ (zf_2 j hj))) hA
    rw [e] at g1
    have := z_OF_fun g1 g2
    have e9 : Int32.ofNat i = Int32.ofNat j := Value.int.inj this
    exact (nI_eq (by omega) (by omega)).mp e9
  · have hm := List.mem_filter.mp hw
    have hb := hts _ hm.1
    have hn : z_isD w = true := hm.2
    cases w with
    | declares x => exact va_Nw.of rfl hb
    | castable a b => exact va_Nw.of rfl hb
    | _ => cases hn
  · obtain ⟨h1, h2, h3⟩ := zf_18 q (List.mem_append_right _ hq)
    have h4 := Cond.eq_refs (hs _ h1) (hSe (q.2.2 - 1200) (by omega)) rfl
    rw [show ρ q.2.2 = adK (q.2.2 - 1200) by rw [← e3 _ (by omega), Nat.add_sub_cancel' h2]]
    exact vk_R.of (A := #[]) (hts _ (zt_11 q (List.mem_append_right _ hq))) h4
end ZEN
