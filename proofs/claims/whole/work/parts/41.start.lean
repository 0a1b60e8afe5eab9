/-! the law's first rows: the things are made; then its loop, by the abstract machine -/
def z_M0 (a k : Nat) : Int32 :=
  if a = 0 then (if k = 2 then -1 else if k = 3 then nI 2 else if k = 4 then nI 12 else 0)
  else if a = 22 then (if k = 1 then nI 12 else if k = 3 then -1 else 0)
  else if a = 23 then (if k = 6 then nI 1000 else 0)
  else if a = 55 then (if k = 0 then nI 2 else 0)
  else if a = 70 then (if k = 26 then -1 else if k = 63 then -1 else 0)
  else 0
def z_S0 (n : Nat) (xs : Nat → Int32) : z_St := (fun a => if a = 1300 then xs else if a = 1301 then (fun _ => nI n) else z_M0 a, fun _ _ => 0)
def z_L0 : z_Lo := [some (.ref 1300), some (.ref 0), some (.ref 70), some (.ref 116), some (.int 0), none, none]
section ZST
variable {n : Nat} {xs : Nat → Int32} {ρ : Nat → Nat} {cA : Nat → ClassId} {D : va_G} {H : Heap} {F : Nat → List Value} {g : Nat → Option Nat}
theorem z_S0_1 {a : Nat} (ha : a < z_n) : (z_S0 n xs).1 a = z_M0 a := by
  have h : a < 117 := ha
  show (if a = 1300 then xs else if a = 1301 then (fun _ => nI n) else z_M0 a) = z_M0 a
  rw [if_neg (by omega), if_neg (by omega)]
theorem z_M0_z {a : Nat} (h : z_at a ≠ 0) : z_M0 a = fun _ => 0 := by
  have h0 : a ≠ 0 := fun q => h (by rw [q]; rfl)
  have h1 : a ≠ 22 := fun q => h (by rw [q]; rfl)
  have h2 : a ≠ 23 := fun q => h (by rw [q]; rfl)
  have h3 : a ≠ 55 := fun q => h (by rw [q]; rfl)
  have h4 : a ≠ 70 := fun q => h (by rw [q]; rfl)
  funext k
  simp [z_M0, h0, h1, h2, h3, h4]
theorem z_at_k : ∀ a, a < z_n → z_at a = 0 ∨ z_at a = 4 ∨ z_at a = 5 ∨ z_at a = 1 ∨ z_at a = 2 ∨ z_at a = 3 := by decide +kernel
theorem z_ln71 : z_ln 71 = 7 := by decide +kernel
theorem z_P0 (hF : ∀ a, a < z_n → z_at a = 0 → F a = z_fs ρ z_M0 a) (hg : ∀ i, i < 7 → g i = some (ρ (z_vs.getD i 0))) (hP : va_P D z_cls (z_kw ρ cA z_n F g) H) : va_P D z_cls (z_wl ρ cA (z_S0 n xs)) H := by
  intro a q hq
  have ha : a < z_n := by
    have := (List.getElem?_eq_some_iff.mp hq).1
    rwa [z_wl_len] at this
  rw [z_wl_get ha] at hq
  cases hq
  have h := hP a _ (z_kw_get ha)
  rcases z_at_k a ha with ht | ht | ht | ht | ht | ht
  · rw [z_ke_o ht] at h
    rw [z_ce_o ht, z_fs_eq (z_S0_1 ha), ← hF a ha ht]
    exact h
  · have e : z_ke cA F g a = .inl (cA 4, z_ln a, .inr (.inl (fun _ => 0))) := by unfold z_ke; rw [ht]; rfl
    rw [e] at h
    rw [z_ce_l ht]
    exact h
  · have e71 := zki_u a ha ht
    subst e71
    rw [z_ke_q ht, z_ln71] at h
    rw [z_ce_q ht, z_ln71]
    have h1 : H[ρ 71]? = some (vp_cell (cA 5) (7, .inr (.inr (.inr (.inr g))))) := h
    show H[ρ 71]? = some (vp_cell (cA 5) (7, .inr (.inr (.inr (.inr (fun i => some (ρ (z_vs.getD i 0))))))))
    rw [h1, vp_cell_q, vp_cell_q]
    congr 1
    unfold arrV
    congr 2
    funext j
    dsimp only
    rw [hg j.1 j.2]
  · have e : z_ke cA F g a = .inl (cA 1, z_ln a, .inl (fun _ => 0)) := by unfold z_ke; rw [ht]; rfl
    rw [e] at h
    rw [z_ce_n ht (Or.inl rfl), z_S0_1 ha, z_M0_z (by rw [ht]; decide)]
    exact h
  · have e : z_ke cA F g a = .inl (cA 2, z_ln a, .inl (fun _ => 0)) := by unfold z_ke; rw [ht]; rfl
    rw [e] at h
    rw [z_ce_n ht (Or.inr (Or.inl rfl)), z_S0_1 ha, z_M0_z (by rw [ht]; decide)]
    exact h
  · have e : z_ke cA F g a = .inl (cA 3, z_ln a, .inl (fun _ => 0)) := by unfold z_ke; rw [ht]; rfl
    rw [e] at h
    rw [z_ce_n ht (Or.inr (Or.inr rfl)), z_S0_1 ha, z_M0_z (by rw [ht]; decide)]
    exact h
theorem z_obj_k : ∀ a, a < z_n → z_at a = 0 → a = 0 ∨ a = 2 ∨ a = 12 ∨ a = 22 ∨ a = 23 ∨ a = 24 ∨ a = 38 ∨ a = 52 ∨ a = 55 ∨ a = 64 ∨ a = 67 ∨ a = 70 := by decide +kernel
end ZST
section ZKA
variable {p : Program} {l : Launch} {e : Env} {R : Room} {s : State} {m : MethodId} {args : Array Value} {below : List Frame} {meth : Method} {c : Code} {Q : State → Prop} {B : Nat} {D : va_G} {ρ : Nat → Nat} {cA : Nat → ClassId} {ls : Array Slot} {nL : Nat} {cc : ByteArray} {own : String}
variable {k cells slots pc pc' : Nat} {F : Nat → List Value} {g : Nat → Option Nat} {st rest : List Value}
theorem zk_astore (C : z_kC p s m args c B D ρ cA nL cc own) {L : z_Lo} {i : Fin 4} {x : Nat} (hl : z_lr ρ ls nL L) (hk : i.val < L.length) (hd : decode cc pc = .ok (.astore_n i, 1)) (hp : pc + 1 = pc') (h : ∀ ls', z_lr ρ ls' nL (z_s1 L i (.ref x)) → z_G p l e R s m args below meth c Q B D ρ cA ls' k F g cells slots pc' rest) : z_G p l e R s m args below meth c Q B D ρ cA ls k F g cells slots pc (.ref (ρ x) :: rest) := fun H locs hw => by
  subst hp
  exact lv_astore_n C.1 C.2.1 hd rfl (z_lr_has hl) (Nat.lt_of_lt_of_le hk hl.2.2.1) rfl (fun ls' h' => h ls' (z_lr_s1 (v := .ref x) hl.2.2.1 h') H locs hw)
theorem zk_istore (C : z_kC p s m args c B D ρ cA nL cc own) {L : z_Lo} {i : Nat} {x : Int32} (hl : z_lr ρ ls nL L) (hk : i < L.length) (hd : decode cc pc = .ok (.istore i, 2)) (hp : pc + 2 = pc') (h : ∀ ls', z_lr ρ ls' nL (z_s1 L i (.int x)) → z_G p l e R s m args below meth c Q B D ρ cA ls' k F g cells slots pc' rest) : z_G p l e R s m args below meth c Q B D ρ cA ls k F g cells slots pc (.int x :: rest) := fun H locs hw => by
  subst hp
  exact lv_istore C.1 C.2.1 hd (z_lr_has hl) (Nat.lt_of_lt_of_le hk hl.2.2.1) rfl (fun ls' h' => h ls' (z_lr_s1 (v := .int x) hl.2.2.1 h') H locs hw)
set_option maxHeartbeats 8000000 in
set_option maxRecDepth 100000 in
theorem z_start {b n : Nat} {xs : Nat → Int32} (C : z_kC p s m #[Value.ref b] c s.heap.size D ρ cA 7 code "SlipRoomLaw") (hb : ρ 1300 = b) (hJ : z_J p l e room_1 s m #[Value.ref b] below meth c Q s.heap.size D ρ cA 7 23 20000 z_L0 [] (z_S0 n xs)) : W p l e room_1 s m #[Value.ref b] below meth c s.heap [] 0 0 Q (entryFrame m ([Value.ref b] : List Value).toArray 7) := by
  have hρ := C.2.2.2.2.2.2
  subst hb
  rw [lg_entry_eq]
  have hl := lv_entry ([Value.ref (ρ 1300)]) (n := 7) (Nat.le_of_ble_eq_true rfl)
  generalize (lg_sl ([Value.ref (ρ 1300)]) ++ List.replicate (7 - (lg_sl ([Value.ref (ρ 1300)])).length) Slot.unset).toArray = ls at hl ⊢
  have hl1 : z_lr ρ ls 7 (z_in 7 [.ref 1300]) := z_in_lr hl
  refine (?_ : z_G p l e room_1 s m _ below meth c Q s.heap.size D ρ cA ls 0 (fun _ => []) (fun _ => none) 0 0 0 []) s.heap [] ⟨rfl, fun k q hq => (by cases hq), va_S.rf⟩
  refine zk_new (cl := 8) (ix := 8) (N := 13) (fs := zk_f8) (pc' := 3) C (by decide) (z_inT_ok (ti := 110) (by decide +kernel)) zki_s8 zki_n8 (Nat.le_of_ble_eq_true rfl) rfl rfl rfl zki_f8 (Nat.le_of_ble_eq_true rfl) (Nat.le_of_ble_eq_true rfl) (by decide +kernel) rfl ?_
  refine zk_dup (pc' := 4) C rfl (by decide +kernel) rfl ?_
  refine zk_call (n := 0) (ix := 78) (As := []) (rest := [.ref (ρ 0)]) (pc' := 7) C (zc_0 l hρ (fun _ => []) (fun _ => none)) zki_c8 zki_n8 zki_m8 rfl (Or.inl (z_inT_ok (ti := 112) (by decide +kernel))) zki_d8 rfl rfl (by decide) rfl hl1.1 (Nat.le_of_ble_eq_true rfl) ⟨Nat.le_of_ble_eq_true rfl, Nat.le_of_ble_eq_true rfl⟩ (by decide +kernel) rfl rfl ?_
  refine zk_astore (i := 1) (pc' := 8) C hl1 (by decide) (by decide +kernel) rfl (fun ls1 hl2 => ?_)
  refine zk_new (cl := 9) (ix := 79) (N := 71) (fs := zk_f9) (pc' := 11) C (by decide) (z_inT_ok (ti := 1151) (by decide +kernel)) zki_s9 zki_n9 (Nat.le_of_ble_eq_true rfl) rfl rfl rfl zki_f9 (Nat.le_of_ble_eq_true rfl) (Nat.le_of_ble_eq_true rfl) (by decide +kernel) rfl ?_
  refine zk_dup (pc' := 12) C rfl (by decide +kernel) rfl ?_
  refine zk_call (n := 0) (ix := 81) (As := []) (rest := [.ref (ρ 70)]) (pc' := 15) C (zc_70 l hρ _) zki_c9 zki_n9 zki_m9 rfl (Or.inl (z_inT_ok (ti := 1153) (by decide +kernel))) zki_d9 rfl rfl (by decide) rfl hl2.1 (Nat.le_of_ble_eq_true rfl) ⟨Nat.le_of_ble_eq_true rfl, Nat.le_of_ble_eq_true rfl⟩ (by decide +kernel) rfl rfl ?_
  refine zk_astore (i := 2) (pc' := 16) C hl2 (by decide) (by decide +kernel) rfl (fun ls2 hl3 => ?_)
  refine zk_iconst (n := 1) (v := 1) (pc' := 17) C (by decide +kernel) (by decide +kernel) rfl ?_
  refine zk_newa (atype := .long) (ty := .long) (t := 4) (N := 1) (a0 := (1, .inr (.inl (fun _ => 0)))) (pc' := 19) C rfl zki_along (C.2.2.2.2.2.1.1.1.2 3 _ rfl).2 rfl rfl (Nat.le_of_ble_eq_true rfl) (by decide) rfl (by decide) (Nat.le_of_ble_eq_true rfl) (Nat.le_of_ble_eq_true rfl) (by decide +kernel) rfl ?_
  refine zk_astore (i := 3) (pc' := 20) C hl3 (by decide) (by decide +kernel) rfl (fun ls3 hl4 => ?_)
  refine zk_iconst (n := 0) (v := 0) (pc' := 21) C (by decide +kernel) (by decide +kernel) rfl ?_
  refine zk_istore (i := 4) (pc' := 23) C hl4 (by decide) (by decide +kernel) rfl (fun ls4 hl5 => ?_)
  intro H locs hw
  refine W.widen (k := 20000) (n := 6 * 20000) (Nat.le_of_ble_eq_true rfl) (Nat.le_of_ble_eq_true rfl) ?_
  refine hJ ls4 H locs hl5 ⟨z_P0 (fun a ha ht => ?_) (fun i hi => ?_) hw.2.1, hw.2.2⟩
  · rcases z_obj_k a ha ht with rfl | rfl | rfl | rfl | rfl | rfl | rfl | rfl | rfl | rfl | rfl | rfl <;> rfl
  · have hi2 : i = 0 ∨ i = 1 ∨ i = 2 ∨ i = 3 ∨ i = 4 ∨ i = 5 ∨ i = 6 := by omega
    rcases hi2 with rfl | rfl | rfl | rfl | rfl | rfl | rfl <;> rfl
end ZKA
