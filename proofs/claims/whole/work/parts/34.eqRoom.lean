/-- SlipRoom.feed(IIIII)I -/
noncomputable def z_R74 (d : Nat) : Nat → z_K := z_run false (some .int) [] (z_ew d) z_b74
theorem ze_74 (d : Nat) (as : List Value) (S : z_St) (h : Nat.ble (z_sl as).length 6 = true) : z_ew (d + 1) 74 as S = z_R74 d z_fuel 0 0 (z_in 6 as) [] S := zs_ew h
set_option maxRecDepth 100000 in
theorem zq_74_0 (d n z : Nat) (l1 : Int32) (l2 : Int32) (l3 : Int32) (l4 : Int32) (l5 : Int32) (S : z_St) : z_R74 d (n + 1) 0 z [some (.ref 0), some (.int l1), some (.int l2), some (.int l3), some (.int l4), some (.int l5)] [] S = if ((S.1 0 1) + (nI 20)) ≤ (nI 700) then (z_R74 d n 15 z [some (.ref 0), some (.int l1), some (.int l2), some (.int l3), some (.int l4), some (.int l5)] [] S) else (some (.inl (some (.int (-nI 1))), S)) := by
  refine zs_run (L' := [some (.ref 0), some (.int l1), some (.int l2), some (.int l3), some (.int l4), some (.int l5)]) rfl rfl ?_
  exact zs_aload_n rfl (zs_get0 (x := (S.1 0 1)) rfl rfl (zs_bipush (v := nI 20) rfl (zs_iadd (zs_sipush (v := nI 700) rfl (zs_ic_le rfl (zs_iconst (v := (-nI 1)) rfl (zs_iret rfl)))))))
set_option maxRecDepth 100000 in
theorem zq_74_15 (d n z : Nat) (l1 : Int32) (l2 : Int32) (l3 : Int32) (l4 : Int32) (l5 : Int32) (S : z_St) : z_R74 d (n + 1) 15 z [some (.ref 0), some (.int l1), some (.int l2), some (.int l3), some (.int l4), some (.int l5)] [] S = z_clv (z_ew d 99 [.ref 0, .int l1] S) (fun S1 => z_clv (z_ew d 99 [.ref 0, .int l2] S1) (fun S2 => z_clv (z_ew d 99 [.ref 0, .int l3] S2) (fun S3 => z_clv (z_ew d 99 [.ref 0, .int l4] S3) (fun S4 => z_clv (z_ew d 99 [.ref 0, .int l5] S4) (fun S5 => some (.inl (some (.int (S5.1 0 1))), S5)) (z_hnd [])) (z_hnd [])) (z_hnd [])) (z_hnd [])) (z_hnd []) := by
  refine zs_run (L' := [some (.ref 0), some (.int l1), some (.int l2), some (.int l3), some (.int l4), some (.int l5)]) rfl rfl ?_
  exact zs_aload_n rfl (zs_iload_n rfl (zs_Vv rfl rfl (Or.inr ⟨Or.inl rfl, _, _, rfl, rfl⟩) (fun S1 => zs_aload_n rfl (zs_iload_n rfl (zs_Vv rfl rfl (Or.inr ⟨Or.inl rfl, _, _, rfl, rfl⟩) (fun S2 => zs_aload_n rfl (zs_iload_n rfl (zs_Vv rfl rfl (Or.inr ⟨Or.inl rfl, _, _, rfl, rfl⟩) (fun S3 => zs_aload_n rfl (zs_iload rfl (zs_Vv rfl rfl (Or.inr ⟨Or.inl rfl, _, _, rfl, rfl⟩) (fun S4 => zs_aload_n rfl (zs_iload rfl (zs_Vv rfl rfl (Or.inr ⟨Or.inl rfl, _, _, rfl, rfl⟩) (fun S5 => zs_aload_n rfl (zs_get0 (x := (S5.1 0 1)) rfl rfl (zs_iret rfl))) (fun _ _ => rfl)))) (fun _ _ => rfl)))) (fun _ _ => rfl)))) (fun _ _ => rfl)))) (fun _ _ => rfl)))
/-- SlipRoom.room(I)I -/
noncomputable def z_R75 (d : Nat) : Nat → z_K := z_run false (some .int) [] (z_ew d) z_b75
theorem ze_75 (d : Nat) (as : List Value) (S : z_St) (h : Nat.ble (z_sl as).length 4 = true) : z_ew (d + 1) 75 as S = z_R75 d z_fuel 0 0 (z_in 4 as) [] S := zs_ew h
set_option maxRecDepth 100000 in
theorem zq_75_0 (d n z : Nat) (l1 : Int32) (d2 d3 : Option Value) (S : z_St) : z_R75 d (n + 1) 0 z [some (.ref 0), some (.int l1), d2, d3] [] S = if l1 < 0 then (z_R75 d n 12 z [some (.ref 0), some (.int l1), none, none] [] S) else (if l1 ≤ (S.1 0 1) then (z_R75 d n 22 z [some (.ref 0), some (.int l1), none, none] [] S) else (z_R75 d n 12 z [some (.ref 0), some (.int l1), none, none] [] S)) := by
  refine zs_run (L' := [some (.ref 0), some (.int l1), none, none]) rfl rfl ?_
  exact zs_iload_n rfl (zs_if_lt rfl (zs_iload_n rfl (zs_aload_n rfl (zs_get0 (x := (S.1 0 1)) rfl rfl (zs_ic_le rfl (zs_nil rfl))))))
set_option maxRecDepth 100000 in
theorem zq_75_12 (d n z : Nat)  (d0 d1 d2 d3 : Option Value) (S : z_St) : z_R75 d (n + 1) 12 z [d0, d1, d2, d3] [] S = some (.inr 1, S) := by
  refine zs_run (L' := [none, none, none, none]) rfl rfl ?_
  exact zs_thr rfl
set_option maxRecDepth 100000 in
theorem zq_75_22 (d n z : Nat) (l1 : Int32) (d2 d3 : Option Value) (S : z_St) : z_R75 d (n + 1) 22 z [some (.ref 0), some (.int l1), d2, d3] [] S = cond (decide ((S.1 0 4) = -1)) none (z_cli (z_ew d 22 [.ref 22, .int l1, .ref (((S.1 0 4)).toNatClampNeg)] ((z_w1 S.1 0 1 (nI 0)), S.2)) (fun x2 S1 => z_cli (z_ew d 23 [.ref 22] S1) (fun x4 S3 => if x2 = 0 then (z_R75 d n 70 z [some (.ref 0), some (.int l1), some (.int x2), none] [] ((z_w1 S3.1 0 2 x4), S3.2)) else (some (.inl (some (.int x2)), ((z_w1 (z_w1 S3.1 0 2 x4) 37 0 ((S3.1 37 0) + (nI 1))), S3.2)))) (z_hnd [])) (z_hnd [])) := by
  refine zs_run (L' := [some (.ref 0), some (.int l1), none, none]) rfl rfl ?_
  exact zs_aload_n rfl (zs_iconst (v := nI 0) rfl (zs_put (S' := ((z_w1 S.1 0 1 (nI 0)), S.2)) rfl rfl (zs_aload_n rfl (zs_get3 rfl (zs_iload_n rfl (zs_aload_n rfl (zs_get1 (x := (S.1 0 4)) rfl rfl (zs_Vi rfl rfl (Or.inr ⟨Or.inl rfl, _, _, rfl, rfl⟩) (fun x2 S1 => zs_istore_n (L' := [some (.ref 0), some (.int l1), some (.int x2), none]) rfl rfl (zs_aload_n rfl (zs_aload_n rfl (zs_get3 rfl (zs_Vi rfl rfl (Or.inr ⟨Or.inl rfl, _, _, rfl, rfl⟩) (fun x4 S3 => zs_put (S' := ((z_w1 S3.1 0 2 x4), S3.2)) rfl rfl (zs_iload_n rfl (zs_if_eq rfl (zs_aload_n rfl (zs_get3 rfl (zs_get2 (b := 37) rfl rfl (zs_iconst (v := nI 0) rfl (zs_dup2 (zs_x (zs_ia (v := (S3.1 37 0)) rfl rfl rfl rfl (zs_iconst (v := nI 1) rfl (zs_iadd (zs_x (zs_ias (S' := ((z_w1 (z_w1 S3.1 0 2 x4) 37 0 ((S3.1 37 0) + (nI 1))), S3.2)) rfl rfl rfl (zs_iload_n rfl (zs_iret rfl))) (z_ixn rfl rfl))))) (z_ixn rfl rfl)))))))))) (fun _ _ => rfl)))))) (fun _ _ => rfl)))))))))
set_option maxRecDepth 100000 in
theorem zq_75_70 (d n z : Nat)  (d1 d2 d3 : Option Value) (S : z_St) : z_R75 d (n + 1) 70 z [some (.ref 0), d1, d2, d3] [] S = cond (decide ((S.1 0 3) = -1)) none (cond (decide ((S.1 0 4) = -1)) none (cond (Nat.blt (((S.1 0 4)).toNatClampNeg) 2000) (cond (Nat.blt (((S.1 0 3)).toNatClampNeg) 2000) (z_clv (z_ew d 5 [.ref 24] ((z_w1 (z_w1 S.1 0 3 (nI (((S.1 0 4)).toNatClampNeg))) 0 4 (nI (((S.1 0 3)).toNatClampNeg))), S.2)) (fun S1 => z_clv (z_ew d 70 [.ref 64] S1) (fun S2 => some (.inl (some (.int (nI 0))), ((z_w1 S2.1 0 8 (nI 0)), S2.2))) (z_hnd [])) (z_hnd [])) none) none)) := by
  refine zs_run (L' := [some (.ref 0), none, none, none]) rfl rfl ?_
  exact zs_aload_n rfl (zs_get1 (x := (S.1 0 3)) rfl rfl (zs_astore_n (L' := [some (.ref 0), none, none, some (.ref (((S.1 0 3)).toNatClampNeg))]) rfl rfl (zs_aload_n rfl (zs_aload_n rfl (zs_get1 (x := (S.1 0 4)) rfl rfl (zs_putrc (S' := ((z_w1 S.1 0 3 (nI (((S.1 0 4)).toNatClampNeg))), S.2)) rfl rfl (zs_aload_n rfl (zs_aload_n rfl (zs_putrc (S' := ((z_w1 (z_w1 S.1 0 3 (nI (((S.1 0 4)).toNatClampNeg))) 0 4 (nI (((S.1 0 3)).toNatClampNeg))), S.2)) rfl rfl (zs_aload_n rfl (zs_get3 rfl (zs_Vv rfl rfl (Or.inr ⟨Or.inl rfl, _, _, rfl, rfl⟩) (fun S1 => zs_aload_n rfl (zs_get3 rfl (zs_Vv rfl rfl (Or.inr ⟨Or.inl rfl, _, _, rfl, rfl⟩) (fun S2 => zs_aload_n rfl (zs_iconst (v := nI 0) rfl (zs_put (S' := ((z_w1 S2.1 0 8 (nI 0)), S2.2)) (by decide +kernel) rfl (zs_iconst (v := nI 0) rfl (zs_iret rfl))))) (fun _ _ => rfl)))) (fun _ _ => rfl)))))))))))))
/-- SlipRoom.fault()I -/
noncomputable def z_R76 (d : Nat) : Nat → z_K := z_run false (some .int) [] (z_ew d) z_b76
theorem ze_76 (d : Nat) (as : List Value) (S : z_St) (h : Nat.ble (z_sl as).length 1 = true) : z_ew (d + 1) 76 as S = z_R76 d z_fuel 0 0 (z_in 1 as) [] S := zs_ew h
set_option maxRecDepth 100000 in
theorem zq_76_0 (d n z : Nat)  (S : z_St) : z_R76 d (n + 1) 0 z [some (.ref 0)] [] S = some (.inl (some (.int (S.1 0 2))), S) := by
  refine zs_run (L' := [some (.ref 0)]) rfl rfl ?_
  exact zs_aload_n rfl (zs_get0 (x := (S.1 0 2)) rfl rfl (zs_iret rfl))
/-- SlipRoom.count(I)I -/
noncomputable def z_R77 (d : Nat) : Nat → z_K := z_run false (some .int) [] (z_ew d) z_b77
theorem ze_77 (d : Nat) (as : List Value) (S : z_St) (h : Nat.ble (z_sl as).length 2 = true) : z_ew (d + 1) 77 as S = z_R77 d z_fuel 0 0 (z_in 2 as) [] S := zs_ew h
set_option maxRecDepth 100000 in
theorem zq_77_0 (d n z : Nat) (l1 : Int32) (S : z_St) : z_R77 d (n + 1) 0 z [some (.ref 0), some (.int l1)] [] S = z_sw l1 96 0 6 #[43, 51, 59, 67, 75, 83, 88] (fun o => z_R77 d n (z_tg 1 o) z [some (.ref 0), some (.int l1)] [] S) := by
  refine zs_run (L' := [some (.ref 0), some (.int l1)]) rfl rfl ?_
  exact zs_iload_n rfl (zs_tsw (fun o => rfl))
set_option maxRecDepth 100000 in
theorem zq_77_44 (d n z : Nat)  (d1 : Option Value) (S : z_St) : z_R77 d (n + 1) 44 z [some (.ref 0), d1] [] S = cond (decide ((S.1 0 3) = -1)) none (cond (z_isO 3 (((S.1 0 3)).toNatClampNeg)) (some (.inl (some (.int (S.1 (((S.1 0 3)).toNatClampNeg) 0))), S)) none) := by
  refine zs_run (L' := [some (.ref 0), none]) rfl rfl ?_
  exact zs_aload_n rfl (zs_get1 (x := (S.1 0 3)) rfl rfl (zs_get0c (x := (S.1 (((S.1 0 3)).toNatClampNeg) 0)) rfl (zs_iret rfl)))
set_option maxRecDepth 100000 in
theorem zq_77_52 (d n z : Nat)  (d1 : Option Value) (S : z_St) : z_R77 d (n + 1) 52 z [some (.ref 0), d1] [] S = cond (decide ((S.1 0 3) = -1)) none (cond (z_isO 3 (((S.1 0 3)).toNatClampNeg)) (some (.inl (some (.int (S.1 (((S.1 0 3)).toNatClampNeg) 3))), S)) none) := by
  refine zs_run (L' := [some (.ref 0), none]) rfl rfl ?_
  exact zs_aload_n rfl (zs_get1 (x := (S.1 0 3)) rfl rfl (zs_get0c (x := (S.1 (((S.1 0 3)).toNatClampNeg) 3)) rfl (zs_iret rfl)))
set_option maxRecDepth 100000 in
theorem zq_77_60 (d n z : Nat)  (d1 : Option Value) (S : z_St) : z_R77 d (n + 1) 60 z [some (.ref 0), d1] [] S = some (.inl (some (.int (S.1 24 0))), S) := by
  refine zs_run (L' := [some (.ref 0), none]) rfl rfl ?_
  exact zs_aload_n rfl (zs_get3 rfl (zs_get0 (x := (S.1 24 0)) rfl rfl (zs_iret rfl)))
set_option maxRecDepth 100000 in
theorem zq_77_68 (d n z : Nat)  (d1 : Option Value) (S : z_St) : z_R77 d (n + 1) 68 z [some (.ref 0), d1] [] S = some (.inl (some (.int (S.1 24 10))), S) := by
  refine zs_run (L' := [some (.ref 0), none]) rfl rfl ?_
  exact zs_aload_n rfl (zs_get3 rfl (zs_get0 (x := (S.1 24 10)) rfl rfl (zs_iret rfl)))
set_option maxRecDepth 100000 in
theorem zq_77_76 (d n z : Nat)  (d1 : Option Value) (S : z_St) : z_R77 d (n + 1) 76 z [some (.ref 0), d1] [] S = some (.inl (some (.int (S.1 24 12))), S) := by
  refine zs_run (L' := [some (.ref 0), none]) rfl rfl ?_
  exact zs_aload_n rfl (zs_get3 rfl (zs_get0 (x := (S.1 24 12)) rfl rfl (zs_iret rfl)))
set_option maxRecDepth 100000 in
theorem zq_77_84 (d n z : Nat)  (d1 : Option Value) (S : z_St) : z_R77 d (n + 1) 84 z [some (.ref 0), d1] [] S = some (.inl (some (.int (S.1 0 1))), S) := by
  refine zs_run (L' := [some (.ref 0), none]) rfl rfl ?_
  exact zs_aload_n rfl (zs_get0 (x := (S.1 0 1)) rfl rfl (zs_iret rfl))
set_option maxRecDepth 100000 in
theorem zq_77_89 (d n z : Nat)  (d1 : Option Value) (S : z_St) : z_R77 d (n + 1) 89 z [some (.ref 0), d1] [] S = some (.inl (some (.int (S.1 24 2))), S) := by
  refine zs_run (L' := [some (.ref 0), none]) rfl rfl ?_
  exact zs_aload_n rfl (zs_get3 rfl (zs_get0 (x := (S.1 24 2)) rfl rfl (zs_iret rfl)))
set_option maxRecDepth 100000 in
theorem zq_77_97 (d n z : Nat) (l1 : Int32) (S : z_St) : z_R77 d (n + 1) 97 z [some (.ref 0), some (.int l1)] [] S = z_cli (z_ew d 102 [.ref 0, .int l1] S) (fun x2 S1 => some (.inl (some (.int x2)), S1)) (z_hnd []) := by
  refine zs_run (L' := [some (.ref 0), some (.int l1)]) rfl rfl ?_
  exact zs_aload_n rfl (zs_iload_n rfl (zs_Vi rfl rfl (Or.inr ⟨Or.inl rfl, _, _, rfl, rfl⟩) (fun x2 S1 => zs_iret rfl) (fun _ _ => rfl)))
/-- SlipRoom.book(II)I -/
noncomputable def z_R78 (d : Nat) : Nat → z_K := z_run false (some .int) [] (z_ew d) z_b78
theorem ze_78 (d : Nat) (as : List Value) (S : z_St) (h : Nat.ble (z_sl as).length 3 = true) : z_ew (d + 1) 78 as S = z_R78 d z_fuel 0 0 (z_in 3 as) [] S := zs_ew h
set_option maxRecDepth 100000 in
theorem zq_78_0 (d n z : Nat) (l1 : Int32) (l2 : Int32) (S : z_St) : z_R78 d (n + 1) 0 z [some (.ref 0), some (.int l1), some (.int l2)] [] S = z_clv (z_ew d 100 [.ref 0, .int l1] S) (fun S1 => z_sw l2 92 0 4 #[34, 44, 54, 73, 82] (fun o => z_R78 d n (z_tg 6 o) z [some (.ref 0), some (.int l1), some (.int l2)] [] S1)) (z_hnd []) := by
  refine zs_run (L' := [some (.ref 0), some (.int l1), some (.int l2)]) rfl rfl ?_
  exact zs_aload_n rfl (zs_iload_n rfl (zs_Vv rfl rfl (Or.inr ⟨Or.inl rfl, _, _, rfl, rfl⟩) (fun S1 => zs_iload_n rfl (zs_tsw (fun o => rfl))) (fun _ _ => rfl)))
set_option maxRecDepth 100000 in
theorem zq_78_40 (d n z : Nat) (l1 : Int32) (d2 : Option Value) (S : z_St) : z_R78 d (n + 1) 40 z [some (.ref 0), some (.int l1), d2] [] S = cond (decide ((S.1 0 3) = -1)) none (cond (z_isO 3 (((S.1 0 3)).toNatClampNeg)) (cond (Nat.beq (z_at (((S.1 0 3)).toNatClampNeg + 1)) 1 && z_ix l1 (z_ln (((S.1 0 3)).toNatClampNeg + 1))) (some (.inl (some (.int (S.1 (((S.1 0 3)).toNatClampNeg + 1) ((l1).toNatClampNeg)))), S)) none) none) := by
  refine zs_run (L' := [some (.ref 0), some (.int l1), none]) rfl rfl ?_
  exact zs_aload_n rfl (zs_get1 (x := (S.1 0 3)) rfl rfl (zs_get2c (b := (((S.1 0 3)).toNatClampNeg + 1)) rfl (zs_iload_n rfl (zs_iac (v := (S.1 (((S.1 0 3)).toNatClampNeg + 1) ((l1).toNatClampNeg))) rfl rfl (zs_iret rfl)))))
set_option maxRecDepth 100000 in
theorem zq_78_50 (d n z : Nat) (l1 : Int32) (d2 : Option Value) (S : z_St) : z_R78 d (n + 1) 50 z [some (.ref 0), some (.int l1), d2] [] S = cond (decide ((S.1 0 3) = -1)) none (cond (z_isO 3 (((S.1 0 3)).toNatClampNeg)) (cond (Nat.beq (z_at (((S.1 0 3)).toNatClampNeg + 2)) 1 && z_ix l1 (z_ln (((S.1 0 3)).toNatClampNeg + 2))) (some (.inl (some (.int (S.1 (((S.1 0 3)).toNatClampNeg + 2) ((l1).toNatClampNeg)))), S)) none) none) := by
  refine zs_run (L' := [some (.ref 0), some (.int l1), none]) rfl rfl ?_
  exact zs_aload_n rfl (zs_get1 (x := (S.1 0 3)) rfl rfl (zs_get2c (b := (((S.1 0 3)).toNatClampNeg + 2)) rfl (zs_iload_n rfl (zs_iac (v := (S.1 (((S.1 0 3)).toNatClampNeg + 2) ((l1).toNatClampNeg))) rfl rfl (zs_iret rfl)))))
set_option maxRecDepth 100000 in
theorem zq_78_60 (d n z : Nat) (l1 : Int32) (d2 : Option Value) (S : z_St) : z_R78 d (n + 1) 60 z [some (.ref 0), some (.int l1), d2] [] S = cond (decide ((S.1 0 3) = -1)) none (cond (z_isO 3 (((S.1 0 3)).toNatClampNeg)) (cond (Nat.beq (z_at (((S.1 0 3)).toNatClampNeg + 1)) 1 && z_ix l1 (z_ln (((S.1 0 3)).toNatClampNeg + 1))) (z_cli (z_ew d 9 [.ref 24, .int l1] S) (fun x2 S1 => some (.inl (some (.int ((S.1 (((S.1 0 3)).toNatClampNeg + 1) ((l1).toNatClampNeg)) - x2))), S1)) (z_hnd [])) none) none) := by
  refine zs_run (L' := [some (.ref 0), some (.int l1), none]) rfl rfl ?_
  exact zs_aload_n rfl (zs_get1 (x := (S.1 0 3)) rfl rfl (zs_get2c (b := (((S.1 0 3)).toNatClampNeg + 1)) rfl (zs_iload_n rfl (zs_iac (v := (S.1 (((S.1 0 3)).toNatClampNeg + 1) ((l1).toNatClampNeg))) rfl rfl (zs_aload_n rfl (zs_get3 rfl (zs_iload_n rfl (zs_Vi rfl rfl (Or.inr ⟨Or.inl rfl, _, _, rfl, rfl⟩) (fun x2 S1 => zs_isub (zs_iret rfl)) (fun _ _ => rfl)))))))))
set_option maxRecDepth 100000 in
theorem zq_78_79 (d n z : Nat) (l1 : Int32) (d2 : Option Value) (S : z_St) : z_R78 d (n + 1) 79 z [some (.ref 0), some (.int l1), d2] [] S = z_cli (z_ew d 13 [.ref 24, .int l1] S) (fun x2 S1 => some (.inl (some (.int x2)), S1)) (z_hnd []) := by
  refine zs_run (L' := [some (.ref 0), some (.int l1), none]) rfl rfl ?_
  exact zs_aload_n rfl (zs_get3 rfl (zs_iload_n rfl (zs_Vi rfl rfl (Or.inr ⟨Or.inl rfl, _, _, rfl, rfl⟩) (fun x2 S1 => zs_iret rfl) (fun _ _ => rfl))))
set_option maxRecDepth 100000 in
theorem zq_78_88 (d n z : Nat) (l1 : Int32) (d2 : Option Value) (S : z_St) : z_R78 d (n + 1) 88 z [some (.ref 0), some (.int l1), d2] [] S = cond (z_ix l1 10) (some (.inl (some (.int (S.1 26 ((l1).toNatClampNeg)))), S)) none := by
  refine zs_run (L' := [some (.ref 0), some (.int l1), none]) rfl rfl ?_
  exact zs_aload_n rfl (zs_get3 rfl (zs_get2 (b := 26) rfl rfl (zs_iload_n rfl (zs_ia (v := (S.1 26 ((l1).toNatClampNeg))) rfl rfl rfl rfl (zs_iret rfl)))))
set_option maxRecDepth 100000 in
theorem zq_78_98 (d n z : Nat)  (d0 d1 d2 : Option Value) (S : z_St) : z_R78 d (n + 1) 98 z [d0, d1, d2] [] S = some (.inr 0, S) := by
  refine zs_run (L' := [none, none, none]) rfl rfl ?_
  exact zs_thr rfl
/-- SlipRoom.reader(II)I -/
noncomputable def z_R79 (d : Nat) : Nat → z_K := z_run false (some .int) [] (z_ew d) z_b79
theorem ze_79 (d : Nat) (as : List Value) (S : z_St) (h : Nat.ble (z_sl as).length 3 = true) : z_ew (d + 1) 79 as S = z_R79 d z_fuel 0 0 (z_in 3 as) [] S := zs_ew h
set_option maxRecDepth 100000 in
theorem zq_79_0 (d n z : Nat) (l1 : Int32) (l2 : Int32) (S : z_St) : z_R79 d (n + 1) 0 z [some (.ref 0), some (.int l1), some (.int l2)] [] S = z_clv (z_ew d 101 [.ref 0, .int l1] S) (fun S1 => z_sw l2 84 0 4 #[34, 44, 54, 64, 74] (fun o => z_R79 d n (z_tg 6 o) z [some (.ref 0), some (.int l1), some (.int l2)] [] S1)) (z_hnd []) := by
  refine zs_run (L' := [some (.ref 0), some (.int l1), some (.int l2)]) rfl rfl ?_
  exact zs_aload_n rfl (zs_iload_n rfl (zs_Vv rfl rfl (Or.inr ⟨Or.inl rfl, _, _, rfl, rfl⟩) (fun S1 => zs_iload_n rfl (zs_tsw (fun o => rfl))) (fun _ _ => rfl)))
set_option maxRecDepth 100000 in
theorem zq_79_40 (d n z : Nat) (l1 : Int32) (d2 : Option Value) (S : z_St) : z_R79 d (n + 1) 40 z [some (.ref 0), some (.int l1), d2] [] S = cond (decide ((S.1 0 3) = -1)) none (cond (z_isO 3 (((S.1 0 3)).toNatClampNeg)) (cond (Nat.beq (z_at (((S.1 0 3)).toNatClampNeg + 3)) 1 && z_ix l1 (z_ln (((S.1 0 3)).toNatClampNeg + 3))) (some (.inl (some (.int (S.1 (((S.1 0 3)).toNatClampNeg + 3) ((l1).toNatClampNeg)))), S)) none) none) := by
  refine zs_run (L' := [some (.ref 0), some (.int l1), none]) rfl rfl ?_
  exact zs_aload_n rfl (zs_get1 (x := (S.1 0 3)) rfl rfl (zs_get2c (b := (((S.1 0 3)).toNatClampNeg + 3)) rfl (zs_iload_n rfl (zs_iac (v := (S.1 (((S.1 0 3)).toNatClampNeg + 3) ((l1).toNatClampNeg))) rfl rfl (zs_iret rfl)))))
set_option maxRecDepth 100000 in
theorem zq_79_50 (d n z : Nat) (l1 : Int32) (d2 : Option Value) (S : z_St) : z_R79 d (n + 1) 50 z [some (.ref 0), some (.int l1), d2] [] S = cond (decide ((S.1 0 3) = -1)) none (cond (z_isO 3 (((S.1 0 3)).toNatClampNeg)) (cond (Nat.beq (z_at (((S.1 0 3)).toNatClampNeg + 4)) 1 && z_ix l1 (z_ln (((S.1 0 3)).toNatClampNeg + 4))) (some (.inl (some (.int (S.1 (((S.1 0 3)).toNatClampNeg + 4) ((l1).toNatClampNeg)))), S)) none) none) := by
  refine zs_run (L' := [some (.ref 0), some (.int l1), none]) rfl rfl ?_
  exact zs_aload_n rfl (zs_get1 (x := (S.1 0 3)) rfl rfl (zs_get2c (b := (((S.1 0 3)).toNatClampNeg + 4)) rfl (zs_iload_n rfl (zs_iac (v := (S.1 (((S.1 0 3)).toNatClampNeg + 4) ((l1).toNatClampNeg))) rfl rfl (zs_iret rfl)))))
set_option maxRecDepth 100000 in
theorem zq_79_60 (d n z : Nat) (l1 : Int32) (d2 : Option Value) (S : z_St) : z_R79 d (n + 1) 60 z [some (.ref 0), some (.int l1), d2] [] S = cond (decide ((S.1 0 3) = -1)) none (cond (z_isO 3 (((S.1 0 3)).toNatClampNeg)) (cond (Nat.beq (z_at (((S.1 0 3)).toNatClampNeg + 5)) 1 && z_ix l1 (z_ln (((S.1 0 3)).toNatClampNeg + 5))) (some (.inl (some (.int (S.1 (((S.1 0 3)).toNatClampNeg + 5) ((l1).toNatClampNeg)))), S)) none) none) := by
  refine zs_run (L' := [some (.ref 0), some (.int l1), none]) rfl rfl ?_
  exact zs_aload_n rfl (zs_get1 (x := (S.1 0 3)) rfl rfl (zs_get2c (b := (((S.1 0 3)).toNatClampNeg + 5)) rfl (zs_iload_n rfl (zs_iac (v := (S.1 (((S.1 0 3)).toNatClampNeg + 5) ((l1).toNatClampNeg))) rfl rfl (zs_iret rfl)))))
set_option maxRecDepth 100000 in
theorem zq_79_70 (d n z : Nat) (l1 : Int32) (d2 : Option Value) (S : z_St) : z_R79 d (n + 1) 70 z [some (.ref 0), some (.int l1), d2] [] S = cond (decide ((S.1 0 3) = -1)) none (cond (z_isO 3 (((S.1 0 3)).toNatClampNeg)) (cond (Nat.beq (z_at (((S.1 0 3)).toNatClampNeg + 6)) 1 && z_ix l1 (z_ln (((S.1 0 3)).toNatClampNeg + 6))) (some (.inl (some (.int (S.1 (((S.1 0 3)).toNatClampNeg + 6) ((l1).toNatClampNeg)))), S)) none) none) := by
  refine zs_run (L' := [some (.ref 0), some (.int l1), none]) rfl rfl ?_
  exact zs_aload_n rfl (zs_get1 (x := (S.1 0 3)) rfl rfl (zs_get2c (b := (((S.1 0 3)).toNatClampNeg + 6)) rfl (zs_iload_n rfl (zs_iac (v := (S.1 (((S.1 0 3)).toNatClampNeg + 6) ((l1).toNatClampNeg))) rfl rfl (zs_iret rfl)))))
set_option maxRecDepth 100000 in
theorem zq_79_80 (d n z : Nat) (l1 : Int32) (d2 : Option Value) (S : z_St) : z_R79 d (n + 1) 80 z [some (.ref 0), some (.int l1), d2] [] S = cond (z_ix l1 8) (some (.inl (some (.int (S.1 27 ((l1).toNatClampNeg)))), S)) none := by
  refine zs_run (L' := [some (.ref 0), some (.int l1), none]) rfl rfl ?_
  exact zs_aload_n rfl (zs_get3 rfl (zs_get2 (b := 27) rfl rfl (zs_iload_n rfl (zs_ia (v := (S.1 27 ((l1).toNatClampNeg))) rfl rfl rfl rfl (zs_iret rfl)))))
set_option maxRecDepth 100000 in
theorem zq_79_90 (d n z : Nat)  (d0 d1 d2 : Option Value) (S : z_St) : z_R79 d (n + 1) 90 z [d0, d1, d2] [] S = some (.inr 0, S) := by
  refine zs_run (L' := [none, none, none]) rfl rfl ?_
  exact zs_thr rfl
/-- SlipRoom.loan(IIII)I -/
noncomputable def z_R80 (d : Nat) : Nat → z_K := z_run false (some .int) [] (z_ew d) z_b80
theorem ze_80 (d : Nat) (as : List Value) (S : z_St) (h : Nat.ble (z_sl as).length 8 = true) : z_ew (d + 1) 80 as S = z_R80 d z_fuel 0 0 (z_in 8 as) [] S := zs_ew h
set_option maxRecDepth 100000 in
theorem zq_80_0 (d n z : Nat) (l1 : Int32) (l2 : Int32) (l3 : Int32) (l4 : Int32) (d5 d6 d7 : Option Value) (S : z_St) : z_R80 d (n + 1) 0 z [some (.ref 0), some (.int l1), some (.int l2), some (.int l3), some (.int l4), d5, d6, d7] [] S = z_clv (z_ew d 101 [.ref 0, .int l1] S) (fun S1 => z_clv (z_ew d 100 [.ref 0, .int l2] S1) (fun S2 => z_cli (z_ew d 105 [.ref 0, .int l1, .int l2, .int l3, .int l4] S2) (fun x4 S3 => if x4 = 0 then (some (.inl (some (.int (-nI 1))), ((z_w1 S3.1 37 1 ((S3.1 37 1) + (nI 1))), S3.2))) else (z_R80 d n 37 z [some (.ref 0), some (.int l1), some (.int l2), some (.int l3), some (.int l4), none, none, none] [] S3)) (z_hnd [])) (z_hnd [])) (z_hnd []) := by
  refine zs_run (L' := [some (.ref 0), some (.int l1), some (.int l2), some (.int l3), some (.int l4), none, none, none]) rfl rfl ?_
  exact zs_aload_n rfl (zs_iload_n rfl (zs_Vv rfl rfl (Or.inr ⟨Or.inl rfl, _, _, rfl, rfl⟩) (fun S1 => zs_aload_n rfl (zs_iload_n rfl (zs_Vv rfl rfl (Or.inr ⟨Or.inl rfl, _, _, rfl, rfl⟩) (fun S2 => zs_aload_n rfl (zs_iload_n rfl (zs_iload_n rfl (zs_iload_n rfl (zs_iload rfl (zs_Vi rfl rfl (Or.inr ⟨Or.inl rfl, _, _, rfl, rfl⟩) (fun x4 S3 => zs_if_ne rfl (zs_aload_n rfl (zs_get3 rfl (zs_get2 (b := 37) rfl rfl (zs_iconst (v := nI 1) rfl (zs_dup2 (zs_x (zs_ia (v := (S3.1 37 1)) rfl rfl rfl rfl (zs_iconst (v := nI 1) rfl (zs_iadd (zs_x (zs_ias (S' := ((z_w1 S3.1 37 1 ((S3.1 37 1) + (nI 1))), S3.2)) rfl rfl rfl (zs_iconst (v := (-nI 1)) rfl (zs_iret rfl))) (z_ixn rfl rfl))))) (z_ixn rfl rfl)))))))) (fun _ _ => rfl))))))) (fun _ _ => rfl)))) (fun _ _ => rfl)))
set_option maxRecDepth 100000 in
theorem zq_80_37 (d n z : Nat) (l1 : Int32) (l2 : Int32) (l3 : Int32) (l4 : Int32) (d5 d6 d7 : Option Value) (S : z_St) : z_R80 d (n + 1) 37 z [some (.ref 0), some (.int l1), some (.int l2), some (.int l3), some (.int l4), d5, d6, d7] [] S = z_cli (z_ew d 103 [.int l1, .int l2] S) (fun x2 S1 => z_cli (z_ew d 106 [.ref 0, .int l1, .int l2] S1) (fun x4 S3 => cond (z_ix x2 80) (if (S3.1 29 ((x2).toNatClampNeg)) = 0 then (cond (decide ((S3.1 0 3) = -1)) none (cond (z_isO 3 (((S3.1 0 3)).toNatClampNeg)) (cond (Nat.beq (z_at (((S3.1 0 3)).toNatClampNeg + 6)) 1 && z_ix l1 (z_ln (((S3.1 0 3)).toNatClampNeg + 6))) (if (S3.1 (((S3.1 0 3)).toNatClampNeg + 6) ((l1).toNatClampNeg)) = (nI 1) then (cond (decide ((S3.1 0 3) = -1)) none (cond (z_isO 3 (((S3.1 0 3)).toNatClampNeg)) (cond (Nat.beq (z_at (((S3.1 0 3)).toNatClampNeg + 1)) 1 && z_ix l2 (z_ln (((S3.1 0 3)).toNatClampNeg + 1))) (cond (decide ((S3.1 0 3) = -1)) none (cond (z_isO 3 (((S3.1 0 3)).toNatClampNeg)) (cond (Nat.beq (z_at (((S3.1 0 3)).toNatClampNeg + 1)) 1 && z_ix l2 (z_ln (((S3.1 0 3)).toNatClampNeg + 1))) (z_clv (z_ew d 8 [.ref 24, .int x2, .int (S3.1 (((S3.1 0 3)).toNatClampNeg + 1) ((l2).toNatClampNeg)), .int (S3.1 (((S3.1 0 3)).toNatClampNeg + 1) ((l2).toNatClampNeg)), .int l3] S3) (fun S5 => z_R80 d n 106 z [some (.ref 0), some (.int l1), some (.int l2), some (.int l3), some (.int l4), some (.int x2), some (.int x4), none] [] S5) (z_hnd [])) none) none)) none) none)) else (z_R80 d n 106 z [some (.ref 0), some (.int l1), some (.int l2), some (.int l3), some (.int l4), some (.int x2), some (.int x4), none] [] S3)) none) none)) else (z_R80 d n 106 z [some (.ref 0), some (.int l1), some (.int l2), some (.int l3), some (.int l4), some (.int x2), some (.int x4), none] [] S3)) none) (z_hnd [])) (z_hnd []) := by
  refine zs_run (L' := [some (.ref 0), some (.int l1), some (.int l2), some (.int l3), some (.int l4), none, none, none]) rfl rfl ?_
  exact zs_iload_n rfl (zs_iload_n rfl (zs_Si rfl rfl (Or.inl (Or.inl rfl)) (fun x2 S1 => zs_istore (L' := [some (.ref 0), some (.int l1), some (.int l2), some (.int l3), some (.int l4), some (.int x2), none, none]) rfl rfl (zs_aload_n rfl (zs_iload_n rfl (zs_iload_n rfl (zs_Vi rfl rfl (Or.inr ⟨Or.inl rfl, _, _, rfl, rfl⟩) (fun x4 S3 => zs_istore (L' := [some (.ref 0), some (.int l1), some (.int l2), some (.int l3), some (.int l4), some (.int x2), some (.int x4), none]) rfl rfl (zs_aload_n rfl (zs_get3 rfl (zs_get2 (b := 29) rfl rfl (zs_iload rfl (zs_ia (v := (S3.1 29 ((x2).toNatClampNeg))) rfl rfl rfl rfl (zs_if_ne rfl (zs_aload_n rfl (zs_get1 (x := (S3.1 0 3)) rfl rfl (zs_get2c (b := (((S3.1 0 3)).toNatClampNeg + 6)) rfl (zs_iload_n rfl (zs_iac (v := (S3.1 (((S3.1 0 3)).toNatClampNeg + 6) ((l1).toNatClampNeg))) rfl rfl (zs_iconst (v := nI 1) rfl (zs_ic_ne rfl (zs_aload_n rfl (zs_get3 rfl (zs_iload rfl (zs_aload_n rfl (zs_get1 (x := (S3.1 0 3)) rfl rfl (zs_get2c (b := (((S3.1 0 3)).toNatClampNeg + 1)) rfl (zs_iload_n rfl (zs_iac (v := (S3.1 (((S3.1 0 3)).toNatClampNeg + 1) ((l2).toNatClampNeg))) rfl rfl (zs_aload_n rfl (zs_get1 (x := (S3.1 0 3)) rfl rfl (zs_get2c (b := (((S3.1 0 3)).toNatClampNeg + 1)) rfl (zs_iload_n rfl (zs_iac (v := (S3.1 (((S3.1 0 3)).toNatClampNeg + 1) ((l2).toNatClampNeg))) rfl rfl (zs_iload_n rfl (zs_Vv rfl rfl (Or.inr ⟨Or.inl rfl, _, _, rfl, rfl⟩) (fun S5 => zs_nil rfl) (fun _ _ => rfl)))))))))))))))))))))))))))))) (fun _ _ => rfl)))))) (fun _ _ => rfl)))
set_option maxRecDepth 100000 in
theorem zq_80_106 (d n z : Nat) (l1 : Int32) (l2 : Int32) (l3 : Int32) (l4 : Int32) (l5 : Int32) (l6 : Int32) (d7 : Option Value) (S : z_St) : z_R80 d (n + 1) 106 z [some (.ref 0), some (.int l1), some (.int l2), some (.int l3), some (.int l4), some (.int l5), some (.int l6), d7] [] S = z_cli (z_ew d 107 [.ref 0, .int l1, .int l2, .int l6, .int l3, .int l4] S) (fun x2 S1 => cond (z_ix l5 80) (cond (z_ix l5 80) (z_clv (z_ew d 12 [.ref 24, .int l1, .int l2, .int l3, .int l4, .int l6, .int (x2 - l6)] ((z_w1 (z_w1 S1.1 28 ((l5).toNatClampNeg) x2) 29 ((l5).toNatClampNeg) x2), S1.2)) (fun S3 => some (.inl (some (.int (x2 - l6))), S3)) (z_hnd [])) none) none) (z_hnd []) := by
  refine zs_run (L' := [some (.ref 0), some (.int l1), some (.int l2), some (.int l3), some (.int l4), some (.int l5), some (.int l6), none]) rfl rfl ?_
  exact zs_aload_n rfl (zs_iload_n rfl (zs_iload_n rfl (zs_iload rfl (zs_iload_n rfl (zs_iload rfl (zs_Vi rfl rfl (Or.inr ⟨Or.inl rfl, _, _, rfl, rfl⟩) (fun x2 S1 => zs_istore (L' := [some (.ref 0), some (.int l1), some (.int l2), some (.int l3), some (.int l4), some (.int l5), some (.int l6), some (.int x2)]) rfl rfl (zs_aload_n rfl (zs_get3 rfl (zs_get2 (b := 28) rfl rfl (zs_iload rfl (zs_iload rfl (zs_ias (S' := ((z_w1 S1.1 28 ((l5).toNatClampNeg) x2), S1.2)) rfl rfl rfl (zs_aload_n rfl (zs_get3 rfl (zs_get2 (b := 29) rfl rfl (zs_iload rfl (zs_iload rfl (zs_ias (S' := ((z_w1 (z_w1 S1.1 28 ((l5).toNatClampNeg) x2) 29 ((l5).toNatClampNeg) x2), S1.2)) rfl rfl rfl (zs_aload_n rfl (zs_get3 rfl (zs_iload_n rfl (zs_iload_n rfl (zs_iload_n rfl (zs_iload rfl (zs_iload rfl (zs_iload rfl (zs_iload rfl (zs_isub (zs_Vv rfl rfl (Or.inr ⟨Or.inl rfl, _, _, rfl, rfl⟩) (fun S3 => zs_iload rfl (zs_iload rfl (zs_isub (zs_iret rfl)))) (fun _ _ => rfl))))))))))))))))))))))))) (fun _ _ => rfl)))))))
/-- SlipRoom.lent(II)I -/
noncomputable def z_R81 (d : Nat) : Nat → z_K := z_run false (some .int) [] (z_ew d) z_b81
theorem ze_81 (d : Nat) (as : List Value) (S : z_St) (h : Nat.ble (z_sl as).length 3 = true) : z_ew (d + 1) 81 as S = z_R81 d z_fuel 0 0 (z_in 3 as) [] S := zs_ew h
set_option maxRecDepth 100000 in
theorem zq_81_0 (d n z : Nat) (l1 : Int32) (l2 : Int32) (S : z_St) : z_R81 d (n + 1) 0 z [some (.ref 0), some (.int l1), some (.int l2)] [] S = if l1 < 0 then (z_R81 d n 25 z [some (.ref 0), some (.int l1), some (.int l2)] [] S) else (if (S.1 24 0) ≤ l1 then (z_R81 d n 25 z [some (.ref 0), some (.int l1), some (.int l2)] [] S) else (if l2 < 0 then (z_R81 d n 25 z [some (.ref 0), some (.int l1), some (.int l2)] [] S) else (if l2 < (nI 6) then (z_R81 d n 35 z [some (.ref 0), some (.int l1), some (.int l2)] [] S) else (z_R81 d n 25 z [some (.ref 0), some (.int l1), some (.int l2)] [] S)))) := by
  refine zs_run (L' := [some (.ref 0), some (.int l1), some (.int l2)]) rfl rfl ?_
  exact zs_iload_n rfl (zs_if_lt rfl (zs_iload_n rfl (zs_aload_n rfl (zs_get3 rfl (zs_get0 (x := (S.1 24 0)) rfl rfl (zs_ic_ge rfl (zs_iload_n rfl (zs_if_lt rfl (zs_iload_n rfl (zs_bipush (v := nI 6) rfl (zs_ic_lt rfl (zs_nil rfl))))))))))))
set_option maxRecDepth 100000 in
theorem zq_81_25 (d n z : Nat)  (d0 d1 d2 : Option Value) (S : z_St) : z_R81 d (n + 1) 25 z [d0, d1, d2] [] S = some (.inr 0, S) := by
  refine zs_run (L' := [none, none, none]) rfl rfl ?_
  exact zs_thr rfl
set_option maxRecDepth 100000 in
theorem zq_81_35 (d n z : Nat) (l1 : Int32) (l2 : Int32) (S : z_St) : z_R81 d (n + 1) 35 z [some (.ref 0), some (.int l1), some (.int l2)] [] S = cond (z_ix ((l1 * (nI 6)) + l2) 1200) (some (.inl (some (.int (S.1 25 ((((l1 * (nI 6)) + l2)).toNatClampNeg)))), S)) none := by
  refine zs_run (L' := [some (.ref 0), some (.int l1), some (.int l2)]) rfl rfl ?_
  exact zs_aload_n rfl (zs_get3 rfl (zs_get2 (b := 25) rfl rfl (zs_iload_n rfl (zs_bipush (v := nI 6) rfl (zs_imul (zs_iload_n rfl (zs_iadd (zs_ia (v := (S.1 25 ((((l1 * (nI 6)) + l2)).toNatClampNeg))) rfl rfl rfl rfl (zs_iret rfl)))))))))
/-- SlipRoom.drop(III)I -/
noncomputable def z_R82 (d : Nat) : Nat → z_K := z_run false (some .int) [] (z_ew d) z_b82
theorem ze_82 (d : Nat) (as : List Value) (S : z_St) (h : Nat.ble (z_sl as).length 4 = true) : z_ew (d + 1) 82 as S = z_R82 d z_fuel 0 0 (z_in 4 as) [] S := zs_ew h
set_option maxRecDepth 100000 in
theorem zq_82_0 (d n z : Nat) (l1 : Int32) (l2 : Int32) (l3 : Int32) (S : z_St) : z_R82 d (n + 1) 0 z [some (.ref 0), some (.int l1), some (.int l2), some (.int l3)] [] S = z_clv (z_ew d 100 [.ref 0, .int l1] S) (fun S1 => if l2 < (S1.1 24 2) then (z_R82 d n 48 z [some (.ref 0), some (.int l1), some (.int l2), some (.int l3)] [] S1) else (if (nI 8759) < l2 then (z_R82 d n 48 z [some (.ref 0), some (.int l1), some (.int l2), some (.int l3)] [] S1) else (cond (z_ix l1 10) (if l2 < (S1.1 26 ((l1).toNatClampNeg)) then (z_R82 d n 48 z [some (.ref 0), some (.int l1), some (.int l2), some (.int l3)] [] S1) else (if l3 < (-nI 50) then (z_R82 d n 48 z [some (.ref 0), some (.int l1), some (.int l2), some (.int l3)] [] S1) else (if l3 ≤ (nI 50) then (z_R82 d n 63 z [some (.ref 0), some (.int l1), some (.int l2), some (.int l3)] [] S1) else (z_R82 d n 48 z [some (.ref 0), some (.int l1), some (.int l2), some (.int l3)] [] S1)))) none))) (z_hnd []) := by
  refine zs_run (L' := [some (.ref 0), some (.int l1), some (.int l2), some (.int l3)]) rfl rfl ?_
  exact zs_aload_n rfl (zs_iload_n rfl (zs_Vv rfl rfl (Or.inr ⟨Or.inl rfl, _, _, rfl, rfl⟩) (fun S1 => zs_iload_n rfl (zs_aload_n rfl (zs_get3 rfl (zs_get0 (x := (S1.1 24 2)) rfl rfl (zs_ic_lt rfl (zs_iload_n rfl (zs_sipush (v := nI 8759) rfl (zs_ic_gt rfl (zs_iload_n rfl (zs_aload_n rfl (zs_get3 rfl (zs_get2 (b := 26) rfl rfl (zs_iload_n rfl (zs_ia (v := (S1.1 26 ((l1).toNatClampNeg))) rfl rfl rfl rfl (zs_ic_lt rfl (zs_iload_n rfl (zs_bipush (v := (-nI 50)) rfl (zs_ic_lt rfl (zs_iload_n rfl (zs_bipush (v := nI 50) rfl (zs_ic_le rfl (zs_nil rfl)))))))))))))))))))))) (fun _ _ => rfl)))
set_option maxRecDepth 100000 in
theorem zq_82_48 (d n z : Nat)  (d1 d2 d3 : Option Value) (S : z_St) : z_R82 d (n + 1) 48 z [some (.ref 0), d1, d2, d3] [] S = some (.inl (some (.int (-nI 1))), ((z_w1 S.1 37 2 ((S.1 37 2) + (nI 1))), S.2)) := by
  refine zs_run (L' := [some (.ref 0), none, none, none]) rfl rfl ?_
  exact zs_aload_n rfl (zs_get3 rfl (zs_get2 (b := 37) rfl rfl (zs_iconst (v := nI 2) rfl (zs_dup2 (zs_x (zs_ia (v := (S.1 37 2)) rfl rfl rfl rfl (zs_iconst (v := nI 1) rfl (zs_iadd (zs_x (zs_ias (S' := ((z_w1 S.1 37 2 ((S.1 37 2) + (nI 1))), S.2)) rfl rfl rfl (zs_iconst (v := (-nI 1)) rfl (zs_iret rfl))) (z_ixn rfl rfl))))) (z_ixn rfl rfl))))))
set_option maxRecDepth 100000 in
theorem zq_82_63 (d n z : Nat) (l1 : Int32) (l2 : Int32) (l3 : Int32) (S : z_St) : z_R82 d (n + 1) 63 z [some (.ref 0), some (.int l1), some (.int l2), some (.int l3)] [] S = cond (decide ((S.1 0 3) = -1)) none (cond (z_isO 3 (((S.1 0 3)).toNatClampNeg)) (cond (Nat.beq (z_at (((S.1 0 3)).toNatClampNeg + 1)) 1 && z_ix l1 (z_ln (((S.1 0 3)).toNatClampNeg + 1))) (z_cli (z_ew d 14 [.ref 24, .int l1, .int l3, .int ((z_w1 S.1 24 2 l2) (((S.1 0 3)).toNatClampNeg + 1) ((l1).toNatClampNeg))] ((z_w1 S.1 24 2 l2), S.2)) (fun x2 S1 => some (.inl (some (.int x2)), S1)) (z_hnd [])) none) none) := by
  refine zs_run (L' := [some (.ref 0), some (.int l1), some (.int l2), some (.int l3)]) rfl rfl ?_
  exact zs_aload_n rfl (zs_get3 rfl (zs_iload_n rfl (zs_put (S' := ((z_w1 S.1 24 2 l2), S.2)) rfl rfl (zs_aload_n rfl (zs_get3 rfl (zs_iload_n rfl (zs_iload_n rfl (zs_aload_n rfl (zs_get1 (x := (S.1 0 3)) rfl rfl (zs_get2c (b := (((S.1 0 3)).toNatClampNeg + 1)) rfl (zs_iload_n rfl (zs_iac (v := ((z_w1 S.1 24 2 l2) (((S.1 0 3)).toNatClampNeg + 1) ((l1).toNatClampNeg))) rfl rfl (zs_Vi rfl rfl (Or.inr ⟨Or.inl rfl, _, _, rfl, rfl⟩) (fun x2 S1 => zs_iret rfl) (fun _ _ => rfl))))))))))))))
/-- SlipRoom.slip(II)I -/
noncomputable def z_R83 (d : Nat) : Nat → z_K := z_run false (some .int) [] (z_ew d) z_b83
theorem ze_83 (d : Nat) (as : List Value) (S : z_St) (h : Nat.ble (z_sl as).length 3 = true) : z_ew (d + 1) 83 as S = z_R83 d z_fuel 0 0 (z_in 3 as) [] S := zs_ew h
set_option maxRecDepth 100000 in
theorem zq_83_0 (d n z : Nat) (l1 : Int32) (l2 : Int32) (S : z_St) : z_R83 d (n + 1) 0 z [some (.ref 0), some (.int l1), some (.int l2)] [] S = z_clv (z_ew d 101 [.ref 0, .int l1] S) (fun S1 => z_clv (z_ew d 100 [.ref 0, .int l2] S1) (fun S2 => z_cli (z_ew d 103 [.int l1, .int l2] S2) (fun x4 S3 => cond (z_ix x4 80) (some (.inl (some (.int (S3.1 28 ((x4).toNatClampNeg)))), S3)) none) (z_hnd [])) (z_hnd [])) (z_hnd []) := by
  refine zs_run (L' := [some (.ref 0), some (.int l1), some (.int l2)]) rfl rfl ?_
  exact zs_aload_n rfl (zs_iload_n rfl (zs_Vv rfl rfl (Or.inr ⟨Or.inl rfl, _, _, rfl, rfl⟩) (fun S1 => zs_aload_n rfl (zs_iload_n rfl (zs_Vv rfl rfl (Or.inr ⟨Or.inl rfl, _, _, rfl, rfl⟩) (fun S2 => zs_aload_n rfl (zs_get3 rfl (zs_get2 (b := 28) rfl rfl (zs_iload_n rfl (zs_iload_n rfl (zs_Si rfl rfl (Or.inl (Or.inl rfl)) (fun x4 S3 => zs_ia (v := (S3.1 28 ((x4).toNatClampNeg))) rfl rfl rfl rfl (zs_iret rfl)) (fun _ _ => rfl))))))) (fun _ _ => rfl)))) (fun _ _ => rfl)))
/-- SlipRoom.read(III)I -/
noncomputable def z_R84 (d : Nat) : Nat → z_K := z_run false (some .int) [] (z_ew d) z_b84
theorem ze_84 (d : Nat) (as : List Value) (S : z_St) (h : Nat.ble (z_sl as).length 5 = true) : z_ew (d + 1) 84 as S = z_R84 d z_fuel 0 0 (z_in 5 as) [] S := zs_ew h
set_option maxRecDepth 100000 in
theorem zq_84_0 (d n z : Nat) (l1 : Int32) (l2 : Int32) (l3 : Int32) (d4 : Option Value) (S : z_St) : z_R84 d (n + 1) 0 z [some (.ref 0), some (.int l1), some (.int l2), some (.int l3), d4] [] S = z_clv (z_ew d 101 [.ref 0, .int l1] S) (fun S1 => z_clv (z_ew d 100 [.ref 0, .int l2] S1) (fun S2 => z_cli (z_ew d 103 [.int l1, .int l2] S2) (fun x4 S3 => z_sw l3 98 0 3 #[30, 41, 60, 87] (fun o => z_R84 d n (z_tg 18 o) z [some (.ref 0), some (.int l1), some (.int l2), some (.int l3), some (.int x4)] [] S3)) (z_hnd [])) (z_hnd [])) (z_hnd []) := by
  refine zs_run (L' := [some (.ref 0), some (.int l1), some (.int l2), some (.int l3), none]) rfl rfl ?_
  exact zs_aload_n rfl (zs_iload_n rfl (zs_Vv rfl rfl (Or.inr ⟨Or.inl rfl, _, _, rfl, rfl⟩) (fun S1 => zs_aload_n rfl (zs_iload_n rfl (zs_Vv rfl rfl (Or.inr ⟨Or.inl rfl, _, _, rfl, rfl⟩) (fun S2 => zs_iload_n rfl (zs_iload_n rfl (zs_Si rfl rfl (Or.inl (Or.inl rfl)) (fun x4 S3 => zs_istore (L' := [some (.ref 0), some (.int l1), some (.int l2), some (.int l3), some (.int x4)]) rfl rfl (zs_iload_n rfl (zs_tsw (fun o => rfl)))) (fun _ _ => rfl)))) (fun _ _ => rfl)))) (fun _ _ => rfl)))
set_option maxRecDepth 100000 in
theorem zq_84_48 (d n z : Nat) (l4 : Int32) (d1 d2 d3 : Option Value) (S : z_St) : z_R84 d (n + 1) 48 z [some (.ref 0), d1, d2, d3, some (.int l4)] [] S = cond (z_ix l4 80) (some (.inl (some (.int (S.1 30 ((l4).toNatClampNeg)))), S)) none := by
  refine zs_run (L' := [some (.ref 0), none, none, none, some (.int l4)]) rfl rfl ?_
  exact zs_aload_n rfl (zs_get3 rfl (zs_get2 (b := 30) rfl rfl (zs_iload rfl (zs_ia (v := (S.1 30 ((l4).toNatClampNeg))) rfl rfl rfl rfl (zs_iret rfl)))))
set_option maxRecDepth 100000 in
theorem zq_84_59 (d n z : Nat) (l2 : Int32) (l4 : Int32) (d1 d3 : Option Value) (S : z_St) : z_R84 d (n + 1) 59 z [some (.ref 0), d1, some (.int l2), d3, some (.int l4)] [] S = cond (decide ((S.1 0 3) = -1)) none (cond (z_isO 3 (((S.1 0 3)).toNatClampNeg)) (cond (Nat.beq (z_at (((S.1 0 3)).toNatClampNeg + 1)) 1 && z_ix l2 (z_ln (((S.1 0 3)).toNatClampNeg + 1))) (z_cli (z_ew d 10 [.ref 24, .int l4, .int (S.1 (((S.1 0 3)).toNatClampNeg + 1) ((l2).toNatClampNeg))] S) (fun x2 S1 => some (.inl (some (.int x2)), S1)) (z_hnd [])) none) none) := by
  refine zs_run (L' := [some (.ref 0), none, some (.int l2), none, some (.int l4)]) rfl rfl ?_
  exact zs_aload_n rfl (zs_get3 rfl (zs_iload rfl (zs_aload_n rfl (zs_get1 (x := (S.1 0 3)) rfl rfl (zs_get2c (b := (((S.1 0 3)).toNatClampNeg + 1)) rfl (zs_iload_n rfl (zs_iac (v := (S.1 (((S.1 0 3)).toNatClampNeg + 1) ((l2).toNatClampNeg))) rfl rfl (zs_Vi rfl rfl (Or.inr ⟨Or.inl rfl, _, _, rfl, rfl⟩) (fun x2 S1 => zs_iret rfl) (fun _ _ => rfl)))))))))
set_option maxRecDepth 100000 in
theorem zq_84_78 (d n z : Nat) (l2 : Int32) (l4 : Int32) (d1 d3 : Option Value) (S : z_St) : z_R84 d (n + 1) 78 z [some (.ref 0), d1, some (.int l2), d3, some (.int l4)] [] S = cond (decide ((S.1 0 3) = -1)) none (cond (z_isO 3 (((S.1 0 3)).toNatClampNeg)) (cond (Nat.beq (z_at (((S.1 0 3)).toNatClampNeg + 1)) 1 && z_ix l2 (z_ln (((S.1 0 3)).toNatClampNeg + 1))) (z_cli (z_ew d 11 [.ref 24, .int l4, .int (S.1 (((S.1 0 3)).toNatClampNeg + 1) ((l2).toNatClampNeg))] S) (fun x2 S1 => if x2 = 0 then (z_R84 d n 103 z [some (.ref 0), none, some (.int l2), none, some (.int l4)] [] S1) else (z_R84 d n 104 z [some (.ref 0), none, some (.int l2), none, some (.int l4)] [.int (nI 1)] S1)) (z_hnd [])) none) none) := by
  refine zs_run (L' := [some (.ref 0), none, some (.int l2), none, some (.int l4)]) rfl rfl ?_
  exact zs_aload_n rfl (zs_get3 rfl (zs_iload rfl (zs_aload_n rfl (zs_get1 (x := (S.1 0 3)) rfl rfl (zs_get2c (b := (((S.1 0 3)).toNatClampNeg + 1)) rfl (zs_iload_n rfl (zs_iac (v := (S.1 (((S.1 0 3)).toNatClampNeg + 1) ((l2).toNatClampNeg))) rfl rfl (zs_Vi rfl rfl (Or.inr ⟨Or.inl rfl, _, _, rfl, rfl⟩) (fun x2 S1 => zs_if_eq rfl (zs_iconst (v := nI 1) rfl (zs_goto rfl))) (fun _ _ => rfl)))))))))
set_option maxRecDepth 100000 in
theorem zq_84_103 (d n z : Nat)  (d0 d1 d2 d3 d4 : Option Value) (S : z_St) : z_R84 d (n + 1) 103 z [d0, d1, d2, d3, d4] [] S = z_R84 d n 104 z [none, none, none, none, none] [.int (nI 0)] S := by
  refine zs_run (L' := [none, none, none, none, none]) rfl rfl ?_
  exact zs_iconst (v := nI 0) rfl (zs_nil rfl)
set_option maxRecDepth 100000 in
theorem zq_84_104 (d n z : Nat) (t0 : Int32) (d0 d1 d2 d3 d4 : Option Value) (S : z_St) : z_R84 d (n + 1) 104 z [d0, d1, d2, d3, d4] [.int t0] S = some (.inl (some (.int t0)), S) := by
  refine zs_run (L' := [none, none, none, none, none]) rfl rfl ?_
  exact zs_iret rfl
set_option maxRecDepth 100000 in
theorem zq_84_105 (d n z : Nat) (l4 : Int32) (d1 d2 d3 : Option Value) (S : z_St) : z_R84 d (n + 1) 105 z [some (.ref 0), d1, d2, d3, some (.int l4)] [] S = cond (z_ix l4 80) (some (.inl (some (.int (S.1 31 ((l4).toNatClampNeg)))), S)) none := by
  refine zs_run (L' := [some (.ref 0), none, none, none, some (.int l4)]) rfl rfl ?_
  exact zs_aload_n rfl (zs_get3 rfl (zs_get2 (b := 31) rfl rfl (zs_iload rfl (zs_ia (v := (S.1 31 ((l4).toNatClampNeg))) rfl rfl rfl rfl (zs_iret rfl)))))
set_option maxRecDepth 100000 in
theorem zq_84_116 (d n z : Nat)  (d0 d1 d2 d3 d4 : Option Value) (S : z_St) : z_R84 d (n + 1) 116 z [d0, d1, d2, d3, d4] [] S = some (.inr 0, S) := by
  refine zs_run (L' := [none, none, none, none, none]) rfl rfl ?_
  exact zs_thr rfl
/-- SlipRoom.has(III)Z -/
noncomputable def z_R85 (d : Nat) : Nat → z_K := z_run false (some .boolean) [] (z_ew d) z_b85
theorem ze_85 (d : Nat) (as : List Value) (S : z_St) (h : Nat.ble (z_sl as).length 4 = true) : z_ew (d + 1) 85 as S = z_R85 d z_fuel 0 0 (z_in 4 as) [] S := zs_ew h
set_option maxRecDepth 100000 in
theorem zq_85_0 (d n z : Nat) (l1 : Int32) (l2 : Int32) (l3 : Int32) (S : z_St) : z_R85 d (n + 1) 0 z [some (.ref 0), some (.int l1), some (.int l2), some (.int l3)] [] S = z_clv (z_ew d 101 [.ref 0, .int l1] S) (fun S1 => z_clv (z_ew d 100 [.ref 0, .int l2] S1) (fun S2 => if l3 < (nI 1) then (z_R85 d n 28 z [some (.ref 0), some (.int l1), some (.int l2), some (.int l3)] [] S2) else (cond (decide ((S2.1 0 3) = -1)) none (cond (z_isO 3 (((S2.1 0 3)).toNatClampNeg)) (cond (Nat.beq (z_at (((S2.1 0 3)).toNatClampNeg + 1)) 1 && z_ix l2 (z_ln (((S2.1 0 3)).toNatClampNeg + 1))) (if l3 ≤ (S2.1 (((S2.1 0 3)).toNatClampNeg + 1) ((l2).toNatClampNeg)) then (z_R85 d n 38 z [some (.ref 0), some (.int l1), some (.int l2), some (.int l3)] [] S2) else (z_R85 d n 28 z [some (.ref 0), some (.int l1), some (.int l2), some (.int l3)] [] S2)) none) none))) (z_hnd [])) (z_hnd []) := by
  refine zs_run (L' := [some (.ref 0), some (.int l1), some (.int l2), some (.int l3)]) rfl rfl ?_
  exact zs_aload_n rfl (zs_iload_n rfl (zs_Vv rfl rfl (Or.inr ⟨Or.inl rfl, _, _, rfl, rfl⟩) (fun S1 => zs_aload_n rfl (zs_iload_n rfl (zs_Vv rfl rfl (Or.inr ⟨Or.inl rfl, _, _, rfl, rfl⟩) (fun S2 => zs_iload_n rfl (zs_iconst (v := nI 1) rfl (zs_ic_lt rfl (zs_iload_n rfl (zs_aload_n rfl (zs_get1 (x := (S2.1 0 3)) rfl rfl (zs_get2c (b := (((S2.1 0 3)).toNatClampNeg + 1)) rfl (zs_iload_n rfl (zs_iac (v := (S2.1 (((S2.1 0 3)).toNatClampNeg + 1) ((l2).toNatClampNeg))) rfl rfl (zs_ic_le rfl (zs_nil rfl))))))))))) (fun _ _ => rfl)))) (fun _ _ => rfl)))
set_option maxRecDepth 100000 in
theorem zq_85_28 (d n z : Nat)  (d0 d1 d2 d3 : Option Value) (S : z_St) : z_R85 d (n + 1) 28 z [d0, d1, d2, d3] [] S = some (.inr 0, S) := by
  refine zs_run (L' := [none, none, none, none]) rfl rfl ?_
  exact zs_thr rfl
set_option maxRecDepth 100000 in
theorem zq_85_38 (d n z : Nat) (l1 : Int32) (l2 : Int32) (l3 : Int32) (S : z_St) : z_R85 d (n + 1) 38 z [some (.ref 0), some (.int l1), some (.int l2), some (.int l3)] [] S = z_cli (z_ew d 103 [.int l1, .int l2] S) (fun x2 S1 => z_cli (z_ew d 7 [.ref 24, .int x2, .int l3] S1) (fun x4 S3 => cond (z_rb (some .boolean) x4) (some (.inl (some (.int x4)), S3)) none) (z_hnd [])) (z_hnd []) := by
  refine zs_run (L' := [some (.ref 0), some (.int l1), some (.int l2), some (.int l3)]) rfl rfl ?_
  exact zs_aload_n rfl (zs_get3 rfl (zs_iload_n rfl (zs_iload_n rfl (zs_Si rfl rfl (Or.inl (Or.inl rfl)) (fun x2 S1 => zs_iload_n rfl (zs_Vi rfl rfl (Or.inr ⟨Or.inl rfl, _, _, rfl, rfl⟩) (fun x4 S3 => zs_iretc) (fun _ _ => rfl))) (fun _ _ => rfl)))))
/-- SlipRoom.ahead(III)I -/
noncomputable def z_R86 (d : Nat) : Nat → z_K := z_run false (some .int) [] (z_ew d) z_b86
theorem ze_86 (d : Nat) (as : List Value) (S : z_St) (h : Nat.ble (z_sl as).length 6 = true) : z_ew (d + 1) 86 as S = z_R86 d z_fuel 0 0 (z_in 6 as) [] S := zs_ew h
set_option maxRecDepth 100000 in
theorem zq_86_0 (d n z : Nat) (l1 : Int32) (l2 : Int32) (l3 : Int32) (d4 d5 : Option Value) (S : z_St) : z_R86 d (n + 1) 0 z [some (.ref 0), some (.int l1), some (.int l2), some (.int l3), d4, d5] [] S = z_clv (z_ew d 101 [.ref 0, .int l1] S) (fun S1 => z_clv (z_ew d 101 [.ref 0, .int l2] S1) (fun S2 => z_clv (z_ew d 100 [.ref 0, .int l3] S2) (fun S3 => z_cli (z_ew d 103 [.int l1, .int l3] S3) (fun x5 S4 => cond (z_ix x5 80) (z_cli (z_ew d 103 [.int l2, .int l3] S4) (fun x7 S6 => cond (z_ix x7 80) (if l1 = l2 then (z_R86 d n 62 z [some (.ref 0), some (.int l1), some (.int l2), some (.int l3), some (.int (S4.1 28 ((x5).toNatClampNeg))), some (.int (S6.1 28 ((x7).toNatClampNeg)))] [] S6) else (if (S4.1 28 ((x5).toNatClampNeg)) < (nI 1) then (z_R86 d n 62 z [some (.ref 0), some (.int l1), some (.int l2), some (.int l3), some (.int (S4.1 28 ((x5).toNatClampNeg))), some (.int (S6.1 28 ((x7).toNatClampNeg)))] [] S6) else (if (nI 1) ≤ (S6.1 28 ((x7).toNatClampNeg)) then (z_R86 d n 72 z [some (.ref 0), some (.int l1), some (.int l2), some (.int l3), some (.int (S4.1 28 ((x5).toNatClampNeg))), some (.int (S6.1 28 ((x7).toNatClampNeg)))] [] S6) else (z_R86 d n 62 z [some (.ref 0), some (.int l1), some (.int l2), some (.int l3), some (.int (S4.1 28 ((x5).toNatClampNeg))), some (.int (S6.1 28 ((x7).toNatClampNeg)))] [] S6)))) none) (z_hnd [])) none) (z_hnd [])) (z_hnd [])) (z_hnd [])) (z_hnd []) := by
  refine zs_run (L' := [some (.ref 0), some (.int l1), some (.int l2), some (.int l3), none, none]) rfl rfl ?_
  exact zs_aload_n rfl (zs_iload_n rfl (zs_Vv rfl rfl (Or.inr ⟨Or.inl rfl, _, _, rfl, rfl⟩) (fun S1 => zs_aload_n rfl (zs_iload_n rfl (zs_Vv rfl rfl (Or.inr ⟨Or.inl rfl, _, _, rfl, rfl⟩) (fun S2 => zs_aload_n rfl (zs_iload_n rfl (zs_Vv rfl rfl (Or.inr ⟨Or.inl rfl, _, _, rfl, rfl⟩) (fun S3 => zs_aload_n rfl (zs_get3 rfl (zs_get2 (b := 28) rfl rfl (zs_iload_n rfl (zs_iload_n rfl (zs_Si rfl rfl (Or.inl (Or.inl rfl)) (fun x5 S4 => zs_ia (v := (S4.1 28 ((x5).toNatClampNeg))) rfl rfl rfl rfl (zs_istore (L' := [some (.ref 0), some (.int l1), some (.int l2), some (.int l3), some (.int (S4.1 28 ((x5).toNatClampNeg))), none]) rfl rfl (zs_aload_n rfl (zs_get3 rfl (zs_get2 (b := 28) rfl rfl (zs_iload_n rfl (zs_iload_n rfl (zs_Si rfl rfl (Or.inl (Or.inl rfl)) (fun x7 S6 => zs_ia (v := (S6.1 28 ((x7).toNatClampNeg))) rfl rfl rfl rfl (zs_istore (L' := [some (.ref 0), some (.int l1), some (.int l2), some (.int l3), some (.int (S4.1 28 ((x5).toNatClampNeg))), some (.int (S6.1 28 ((x7).toNatClampNeg)))]) rfl rfl (zs_iload_n rfl (zs_iload_n rfl (zs_ic_eq rfl (zs_iload rfl (zs_iconst (v := nI 1) rfl (zs_ic_lt rfl (zs_iload rfl (zs_iconst (v := nI 1) rfl (zs_ic_ge rfl (zs_nil rfl)))))))))))) (fun _ _ => rfl))))))))) (fun _ _ => rfl))))))) (fun _ _ => rfl)))) (fun _ _ => rfl)))) (fun _ _ => rfl)))
set_option maxRecDepth 100000 in
theorem zq_86_62 (d n z : Nat)  (d0 d1 d2 d3 d4 d5 : Option Value) (S : z_St) : z_R86 d (n + 1) 62 z [d0, d1, d2, d3, d4, d5] [] S = some (.inr 0, S) := by
  refine zs_run (L' := [none, none, none, none, none, none]) rfl rfl ?_
  exact zs_thr rfl
set_option maxRecDepth 100000 in
theorem zq_86_72 (d n z : Nat) (l4 : Int32) (l5 : Int32) (d0 d1 d2 d3 : Option Value) (S : z_St) : z_R86 d (n + 1) 72 z [d0, d1, d2, d3, some (.int l4), some (.int l5)] [] S = some (.inl (some (.int (l4 - l5))), S) := by
  refine zs_run (L' := [none, none, none, none, some (.int l4), some (.int l5)]) rfl rfl ?_
  exact zs_iload rfl (zs_iload rfl (zs_isub (zs_iret rfl)))
/-- SlipRoom.look(IIII)I -/
noncomputable def z_R87 (d : Nat) : Nat → z_K := z_run false (some .int) [] (z_ew d) z_b87
theorem ze_87 (d : Nat) (as : List Value) (S : z_St) (h : Nat.ble (z_sl as).length 6 = true) : z_ew (d + 1) 87 as S = z_R87 d z_fuel 0 0 (z_in 6 as) [] S := zs_ew h
set_option maxRecDepth 100000 in
theorem zq_87_0 (d n z : Nat) (l1 : Int32) (l2 : Int32) (l3 : Int32) (l4 : Int32) (d5 : Option Value) (S : z_St) : z_R87 d (n + 1) 0 z [some (.ref 0), some (.int l1), some (.int l2), some (.int l3), some (.int l4), d5] [] S = z_clv (z_ew d 100 [.ref 0, .int l1] S) (fun S1 => if l2 < 0 then (z_R87 d n 43 z [some (.ref 0), some (.int l1), some (.int l2), some (.int l3), some (.int l4), none] [] S1) else (if (nI 8759) < l2 then (z_R87 d n 43 z [some (.ref 0), some (.int l1), some (.int l2), some (.int l3), some (.int l4), none] [] S1) else (if l3 < 0 then (z_R87 d n 43 z [some (.ref 0), some (.int l1), some (.int l2), some (.int l3), some (.int l4), none] [] S1) else (if (nI 3) < l3 then (z_R87 d n 43 z [some (.ref 0), some (.int l1), some (.int l2), some (.int l3), some (.int l4), none] [] S1) else (if l4 < (nI 1) then (z_R87 d n 43 z [some (.ref 0), some (.int l1), some (.int l2), some (.int l3), some (.int l4), none] [] S1) else (if (nI 401) < l4 then (z_R87 d n 43 z [some (.ref 0), some (.int l1), some (.int l2), some (.int l3), some (.int l4), none] [] S1) else (z_R87 d n 44 z [some (.ref 0), some (.int l1), some (.int l2), some (.int l3), some (.int l4), none] [.int (nI 1)] S1))))))) (z_hnd []) := by
  refine zs_run (L' := [some (.ref 0), some (.int l1), some (.int l2), some (.int l3), some (.int l4), none]) rfl rfl ?_
  exact zs_aload_n rfl (zs_iload_n rfl (zs_Vv rfl rfl (Or.inr ⟨Or.inl rfl, _, _, rfl, rfl⟩) (fun S1 => zs_iload_n rfl (zs_if_lt rfl (zs_iload_n rfl (zs_sipush (v := nI 8759) rfl (zs_ic_gt rfl (zs_iload_n rfl (zs_if_lt rfl (zs_iload_n rfl (zs_iconst (v := nI 3) rfl (zs_ic_gt rfl (zs_iload rfl (zs_iconst (v := nI 1) rfl (zs_ic_lt rfl (zs_iload rfl (zs_sipush (v := nI 401) rfl (zs_ic_gt rfl (zs_iconst (v := nI 1) rfl (zs_goto rfl)))))))))))))))))) (fun _ _ => rfl)))
set_option maxRecDepth 100000 in
theorem zq_87_43 (d n z : Nat) (l1 : Int32) (l2 : Int32) (l3 : Int32) (l4 : Int32) (d5 : Option Value) (S : z_St) : z_R87 d (n + 1) 43 z [some (.ref 0), some (.int l1), some (.int l2), some (.int l3), some (.int l4), d5] [] S = z_R87 d n 44 z [some (.ref 0), some (.int l1), some (.int l2), some (.int l3), some (.int l4), none] [.int (nI 0)] S := by
  refine zs_run (L' := [some (.ref 0), some (.int l1), some (.int l2), some (.int l3), some (.int l4), none]) rfl rfl ?_
  exact zs_iconst (v := nI 0) rfl (zs_nil rfl)
set_option maxRecDepth 100000 in
theorem zq_87_44 (d n z : Nat) (l1 : Int32) (l2 : Int32) (l3 : Int32) (l4 : Int32) (t0 : Int32) (d5 : Option Value) (S : z_St) : z_R87 d (n + 1) 44 z [some (.ref 0), some (.int l1), some (.int l2), some (.int l3), some (.int l4), d5] [.int t0] S = if t0 = 0 then (z_R87 d n 76 z [some (.ref 0), some (.int l1), some (.int l2), some (.int l3), some (.int l4), some (.int t0)] [] S) else (if (nI 24) ≤ (S.1 24 10) then (z_R87 d n 76 z [some (.ref 0), some (.int l1), some (.int l2), some (.int l3), some (.int l4), some (.int t0)] [] S) else (z_cli (z_ew d 16 [.ref 24, .int l1] S) (fun x2 S1 => if x2 < (nI 6) then (z_R87 d n 91 z [some (.ref 0), some (.int l1), some (.int l2), some (.int l3), some (.int l4), some (.int t0)] [] S1) else (z_R87 d n 76 z [some (.ref 0), some (.int l1), some (.int l2), some (.int l3), some (.int l4), some (.int t0)] [] S1)) (z_hnd []))) := by
  refine zs_run (L' := [some (.ref 0), some (.int l1), some (.int l2), some (.int l3), some (.int l4), none]) rfl rfl ?_
  exact zs_istore (L' := [some (.ref 0), some (.int l1), some (.int l2), some (.int l3), some (.int l4), some (.int t0)]) rfl rfl (zs_iload rfl (zs_if_eq rfl (zs_aload_n rfl (zs_get3 rfl (zs_get0 (x := (S.1 24 10)) rfl rfl (zs_bipush (v := nI 24) rfl (zs_ic_ge rfl (zs_aload_n rfl (zs_get3 rfl (zs_iload_n rfl (zs_Vi rfl rfl (Or.inr ⟨Or.inl rfl, _, _, rfl, rfl⟩) (fun x2 S1 => zs_bipush (v := nI 6) rfl (zs_ic_lt rfl (zs_nil rfl))) (fun _ _ => rfl))))))))))))
set_option maxRecDepth 100000 in
theorem zq_87_76 (d n z : Nat)  (d1 d2 d3 d4 d5 : Option Value) (S : z_St) : z_R87 d (n + 1) 76 z [some (.ref 0), d1, d2, d3, d4, d5] [] S = some (.inl (some (.int (-nI 1))), ((z_w1 S.1 37 3 ((S.1 37 3) + (nI 1))), S.2)) := by
  refine zs_run (L' := [some (.ref 0), none, none, none, none, none]) rfl rfl ?_
  exact zs_aload_n rfl (zs_get3 rfl (zs_get2 (b := 37) rfl rfl (zs_iconst (v := nI 3) rfl (zs_dup2 (zs_x (zs_ia (v := (S.1 37 3)) rfl rfl rfl rfl (zs_iconst (v := nI 1) rfl (zs_iadd (zs_x (zs_ias (S' := ((z_w1 S.1 37 3 ((S.1 37 3) + (nI 1))), S.2)) rfl rfl rfl (zs_iconst (v := (-nI 1)) rfl (zs_iret rfl))) (z_ixn rfl rfl))))) (z_ixn rfl rfl))))))
set_option maxRecDepth 100000 in
theorem zq_87_91 (d n z : Nat) (l1 : Int32) (l2 : Int32) (l3 : Int32) (l4 : Int32) (d5 : Option Value) (S : z_St) : z_R87 d (n + 1) 91 z [some (.ref 0), some (.int l1), some (.int l2), some (.int l3), some (.int l4), d5] [] S = z_cli (z_ew d 15 [.ref 24, .int l1, .int l2, .int l3, .int l4] S) (fun x2 S1 => some (.inl (some (.int x2)), S1)) (z_hnd []) := by
  refine zs_run (L' := [some (.ref 0), some (.int l1), some (.int l2), some (.int l3), some (.int l4), none]) rfl rfl ?_
  exact zs_aload_n rfl (zs_get3 rfl (zs_iload_n rfl (zs_iload_n rfl (zs_iload_n rfl (zs_iload rfl (zs_Vi rfl rfl (Or.inr ⟨Or.inl rfl, _, _, rfl, rfl⟩) (fun x2 S1 => zs_iret rfl) (fun _ _ => rfl)))))))
/-- SlipRoom.ways(I)I -/
noncomputable def z_R88 (d : Nat) : Nat → z_K := z_run false (some .int) [] (z_ew d) z_b88
theorem ze_88 (d : Nat) (as : List Value) (S : z_St) (h : Nat.ble (z_sl as).length 2 = true) : z_ew (d + 1) 88 as S = z_R88 d z_fuel 0 0 (z_in 2 as) [] S := zs_ew h
set_option maxRecDepth 100000 in
theorem zq_88_0 (d n z : Nat) (l1 : Int32) (S : z_St) : z_R88 d (n + 1) 0 z [some (.ref 0), some (.int l1)] [] S = z_clv (z_ew d 100 [.ref 0, .int l1] S) (fun S1 => cond (decide ((S1.1 0 3) = -1)) none (z_clv (z_ew d 42 [.ref 55, .ref (((S1.1 0 3)).toNatClampNeg), .ref 24, .int l1] S1) (fun S2 => z_cli (z_ew d 43 [.ref 55] S2) (fun x4 S3 => some (.inl (some (.int x4)), S3)) (z_hnd [])) (z_hnd []))) (z_hnd []) := by
  refine zs_run (L' := [some (.ref 0), some (.int l1)]) rfl rfl ?_
  exact zs_aload_n rfl (zs_iload_n rfl (zs_Vv rfl rfl (Or.inr ⟨Or.inl rfl, _, _, rfl, rfl⟩) (fun S1 => zs_aload_n rfl (zs_get3 rfl (zs_aload_n rfl (zs_get1 (x := (S1.1 0 3)) rfl rfl (zs_aload_n rfl (zs_get3 rfl (zs_iload_n rfl (zs_Vv rfl rfl (Or.inr ⟨Or.inl rfl, _, _, rfl, rfl⟩) (fun S2 => zs_aload_n rfl (zs_get3 rfl (zs_Vi rfl rfl (Or.inr ⟨Or.inl rfl, _, _, rfl, rfl⟩) (fun x4 S3 => zs_iret rfl) (fun _ _ => rfl)))) (fun _ _ => rfl))))))))) (fun _ _ => rfl)))
/-- SlipRoom.whose(II)I -/
noncomputable def z_R89 (d : Nat) : Nat → z_K := z_run false (some .int) [] (z_ew d) z_b89
theorem ze_89 (d : Nat) (as : List Value) (S : z_St) (h : Nat.ble (z_sl as).length 4 = true) : z_ew (d + 1) 89 as S = z_R89 d z_fuel 0 0 (z_in 4 as) [] S := zs_ew h
set_option maxRecDepth 100000 in
theorem zq_89_0 (d n z : Nat) (l1 : Int32) (l2 : Int32) (d3 : Option Value) (S : z_St) : z_R89 d (n + 1) 0 z [some (.ref 0), some (.int l1), some (.int l2), d3] [] S = if l1 < 0 then (z_R89 d n 24 z [some (.ref 0), some (.int l1), some (.int l2), none] [] S) else (if (S.1 24 10) ≤ l1 then (z_R89 d n 24 z [some (.ref 0), some (.int l1), some (.int l2), none] [] S) else (if l2 < 0 then (z_R89 d n 24 z [some (.ref 0), some (.int l1), some (.int l2), none] [] S) else (if l2 ≤ (nI 1) then (z_R89 d n 34 z [some (.ref 0), some (.int l1), some (.int l2), none] [] S) else (z_R89 d n 24 z [some (.ref 0), some (.int l1), some (.int l2), none] [] S)))) := by
  refine zs_run (L' := [some (.ref 0), some (.int l1), some (.int l2), none]) rfl rfl ?_
  exact zs_iload_n rfl (zs_if_lt rfl (zs_iload_n rfl (zs_aload_n rfl (zs_get3 rfl (zs_get0 (x := (S.1 24 10)) rfl rfl (zs_ic_ge rfl (zs_iload_n rfl (zs_if_lt rfl (zs_iload_n rfl (zs_iconst (v := nI 1) rfl (zs_ic_le rfl (zs_nil rfl))))))))))))
set_option maxRecDepth 100000 in
theorem zq_89_24 (d n z : Nat)  (d0 d1 d2 d3 : Option Value) (S : z_St) : z_R89 d (n + 1) 24 z [d0, d1, d2, d3] [] S = some (.inr 0, S) := by
  refine zs_run (L' := [none, none, none, none]) rfl rfl ?_
  exact zs_thr rfl
set_option maxRecDepth 100000 in
theorem zq_89_34 (d n z : Nat) (l1 : Int32) (l2 : Int32) (d3 : Option Value) (S : z_St) : z_R89 d (n + 1) 34 z [some (.ref 0), some (.int l1), some (.int l2), d3] [] S = cond (decide ((S.1 0 3) = -1)) none (z_cli (z_ew d 17 [.ref 24, .int l1] S) (fun x2 S1 => z_clv (z_ew d 42 [.ref 55, .ref (((S.1 0 3)).toNatClampNeg), .ref 24, .int x2] S1) (fun S3 => z_cli (z_ew d 44 [.ref 55, .int l1] S3) (fun x5 S4 => if l2 = 0 then (z_R89 d n 78 z [some (.ref 0), some (.int l1), some (.int l2), some (.int x5)] [.int x5] S4) else (z_R89 d n 74 z [some (.ref 0), some (.int l1), some (.int l2), some (.int x5)] [] S4)) (z_hnd [])) (z_hnd [])) (z_hnd [])) := by
  refine zs_run (L' := [some (.ref 0), some (.int l1), some (.int l2), none]) rfl rfl ?_
  exact zs_aload_n rfl (zs_get3 rfl (zs_aload_n rfl (zs_get1 (x := (S.1 0 3)) rfl rfl (zs_aload_n rfl (zs_get3 rfl (zs_aload_n rfl (zs_get3 rfl (zs_iload_n rfl (zs_Vi rfl rfl (Or.inr ⟨Or.inl rfl, _, _, rfl, rfl⟩) (fun x2 S1 => zs_Vv rfl rfl (Or.inr ⟨Or.inl rfl, _, _, rfl, rfl⟩) (fun S3 => zs_aload_n rfl (zs_get3 rfl (zs_iload_n rfl (zs_Vi rfl rfl (Or.inr ⟨Or.inl rfl, _, _, rfl, rfl⟩) (fun x5 S4 => zs_istore_n (L' := [some (.ref 0), some (.int l1), some (.int l2), some (.int x5)]) rfl rfl (zs_iload_n rfl (zs_if_ne rfl (zs_iload_n rfl (zs_goto rfl))))) (fun _ _ => rfl))))) (fun _ _ => rfl)) (fun _ _ => rfl))))))))))
set_option maxRecDepth 100000 in
theorem zq_89_74 (d n z : Nat) (l3 : Int32) (d0 d1 d2 : Option Value) (S : z_St) : z_R89 d (n + 1) 74 z [d0, d1, d2, some (.int l3)] [] S = z_cli (z_ew d 104 [.int l3] S) (fun x2 S1 => z_R89 d n 78 z [none, none, none, some (.int l3)] [.int x2] S1) (z_hnd []) := by
  refine zs_run (L' := [none, none, none, some (.int l3)]) rfl rfl ?_
  exact zs_iload_n rfl (zs_Si rfl rfl (Or.inl (Or.inl rfl)) (fun x2 S1 => zs_nil rfl) (fun _ _ => rfl))
set_option maxRecDepth 100000 in
theorem zq_89_78 (d n z : Nat) (t0 : Int32) (d0 d1 d2 d3 : Option Value) (S : z_St) : z_R89 d (n + 1) 78 z [d0, d1, d2, d3] [.int t0] S = some (.inl (some (.int t0)), S) := by
  refine zs_run (L' := [none, none, none, none]) rfl rfl ?_
  exact zs_iret rfl
/-- SlipRoom.ends(III)I -/
noncomputable def z_R90 (d : Nat) : Nat → z_K := z_run false (some .int) [] (z_ew d) z_b90
theorem ze_90 (d : Nat) (as : List Value) (S : z_St) (h : Nat.ble (z_sl as).length 4 = true) : z_ew (d + 1) 90 as S = z_R90 d z_fuel 0 0 (z_in 4 as) [] S := zs_ew h
set_option maxRecDepth 100000 in
theorem zq_90_0 (d n z : Nat) (l1 : Int32) (l2 : Int32) (l3 : Int32) (S : z_St) : z_R90 d (n + 1) 0 z [some (.ref 0), some (.int l1), some (.int l2), some (.int l3)] [] S = z_clv (z_ew d 101 [.ref 0, .int l1] S) (fun S1 => z_clv (z_ew d 100 [.ref 0, .int l2] S1) (fun S2 => if l3 < 0 then (z_R90 d n 19 z [some (.ref 0), some (.int l1), some (.int l2), some (.int l3)] [] S2) else (if l3 ≤ (nI 1) then (z_R90 d n 30 z [some (.ref 0), some (.int l1), some (.int l2), some (.int l3)] [] S2) else (z_R90 d n 19 z [some (.ref 0), some (.int l1), some (.int l2), some (.int l3)] [] S2))) (z_hnd [])) (z_hnd []) := by
  refine zs_run (L' := [some (.ref 0), some (.int l1), some (.int l2), some (.int l3)]) rfl rfl ?_
  exact zs_aload_n rfl (zs_iload_n rfl (zs_Vv rfl rfl (Or.inr ⟨Or.inl rfl, _, _, rfl, rfl⟩) (fun S1 => zs_aload_n rfl (zs_iload_n rfl (zs_Vv rfl rfl (Or.inr ⟨Or.inl rfl, _, _, rfl, rfl⟩) (fun S2 => zs_iload_n rfl (zs_if_lt rfl (zs_iload_n rfl (zs_iconst (v := nI 1) rfl (zs_ic_le rfl (zs_nil rfl)))))) (fun _ _ => rfl)))) (fun _ _ => rfl)))
set_option maxRecDepth 100000 in
theorem zq_90_19 (d n z : Nat)  (d0 d1 d2 d3 : Option Value) (S : z_St) : z_R90 d (n + 1) 19 z [d0, d1, d2, d3] [] S = some (.inr 0, S) := by
  refine zs_run (L' := [none, none, none, none]) rfl rfl ?_
  exact zs_thr rfl
set_option maxRecDepth 100000 in
theorem zq_90_30 (d n z : Nat) (l1 : Int32) (l2 : Int32) (l3 : Int32) (S : z_St) : z_R90 d (n + 1) 30 z [some (.ref 0), some (.int l1), some (.int l2), some (.int l3)] [] S = cond (decide ((S.1 0 3) = -1)) none (z_clv (z_ew d 42 [.ref 55, .ref (((S.1 0 3)).toNatClampNeg), .ref 24, .int l2] S) (fun S1 => if l3 = (nI 1) then (z_R90 d n 61 z [some (.ref 0), some (.int l1), some (.int l2), some (.int l3)] [.int (nI 1), .int l1, .ref 55] S1) else (z_R90 d n 60 z [some (.ref 0), some (.int l1), some (.int l2), some (.int l3)] [.int l1, .ref 55] S1)) (z_hnd [])) := by
  refine zs_run (L' := [some (.ref 0), some (.int l1), some (.int l2), some (.int l3)]) rfl rfl ?_
  exact zs_aload_n rfl (zs_get3 rfl (zs_aload_n rfl (zs_get1 (x := (S.1 0 3)) rfl rfl (zs_aload_n rfl (zs_get3 rfl (zs_iload_n rfl (zs_Vv rfl rfl (Or.inr ⟨Or.inl rfl, _, _, rfl, rfl⟩) (fun S1 => zs_aload_n rfl (zs_get3 rfl (zs_iload_n rfl (zs_iload_n rfl (zs_iconst (v := nI 1) rfl (zs_ic_ne rfl (zs_iconst (v := nI 1) rfl (zs_goto rfl)))))))) (fun _ _ => rfl))))))))
set_option maxRecDepth 100000 in
theorem zq_90_60 (d n z : Nat) (t0 : Int32) (d0 d1 d2 d3 : Option Value) (S : z_St) : z_R90 d (n + 1) 60 z [d0, d1, d2, d3] [.int t0, .ref 55] S = z_R90 d n 61 z [none, none, none, none] [.int (nI 0), .int t0, .ref 55] S := by
  refine zs_run (L' := [none, none, none, none]) rfl rfl ?_
  exact zs_iconst (v := nI 0) rfl (zs_nil rfl)
set_option maxRecDepth 100000 in
theorem zq_90_61 (d n z : Nat) (t0 : Int32) (t1 : Int32) (d0 d1 d2 d3 : Option Value) (S : z_St) : z_R90 d (n + 1) 61 z [d0, d1, d2, d3] [.int t0, .int t1, .ref 55] S = z_cli (z_ew d 45 [.ref 55, .int t1, .int t0] S) (fun x2 S1 => some (.inl (some (.int x2)), S1)) (z_hnd []) := by
  refine zs_run (L' := [none, none, none, none]) rfl rfl ?_
  exact zs_Vi rfl rfl (Or.inr ⟨Or.inl rfl, _, _, rfl, rfl⟩) (fun x2 S1 => zs_iret rfl) (fun _ _ => rfl)
/-- SlipRoom.moved(I)I -/
noncomputable def z_R91 (d : Nat) : Nat → z_K := z_run false (some .int) [] (z_ew d) z_b91
theorem ze_91 (d : Nat) (as : List Value) (S : z_St) (h : Nat.ble (z_sl as).length 2 = true) : z_ew (d + 1) 91 as S = z_R91 d z_fuel 0 0 (z_in 2 as) [] S := zs_ew h
set_option maxRecDepth 100000 in
theorem zq_91_0 (d n z : Nat) (l1 : Int32) (S : z_St) : z_R91 d (n + 1) 0 z [some (.ref 0), some (.int l1)] [] S = z_clv (z_ew d 100 [.ref 0, .int l1] S) (fun S1 => cond (decide ((S1.1 0 3) = -1)) none (z_clv (z_ew d 42 [.ref 55, .ref (((S1.1 0 3)).toNatClampNeg), .ref 24, .int l1] S1) (fun S2 => z_cli (z_ew d 46 [.ref 55] S2) (fun x4 S3 => some (.inl (some (.int x4)), S3)) (z_hnd [])) (z_hnd []))) (z_hnd []) := by
  refine zs_run (L' := [some (.ref 0), some (.int l1)]) rfl rfl ?_
  exact zs_aload_n rfl (zs_iload_n rfl (zs_Vv rfl rfl (Or.inr ⟨Or.inl rfl, _, _, rfl, rfl⟩) (fun S1 => zs_aload_n rfl (zs_get3 rfl (zs_aload_n rfl (zs_get1 (x := (S1.1 0 3)) rfl rfl (zs_aload_n rfl (zs_get3 rfl (zs_iload_n rfl (zs_Vv rfl rfl (Or.inr ⟨Or.inl rfl, _, _, rfl, rfl⟩) (fun S2 => zs_aload_n rfl (zs_get3 rfl (zs_Vi rfl rfl (Or.inr ⟨Or.inl rfl, _, _, rfl, rfl⟩) (fun x4 S3 => zs_iret rfl) (fun _ _ => rfl)))) (fun _ _ => rfl))))))))) (fun _ _ => rfl)))
/-- SlipRoom.wish(III)I -/
noncomputable def z_R92 (d : Nat) : Nat → z_K := z_run false (some .int) [] (z_ew d) z_b92
theorem ze_92 (d : Nat) (as : List Value) (S : z_St) (h : Nat.ble (z_sl as).length 4 = true) : z_ew (d + 1) 92 as S = z_R92 d z_fuel 0 0 (z_in 4 as) [] S := zs_ew h
set_option maxRecDepth 100000 in
theorem zq_92_0 (d n z : Nat) (l1 : Int32) (l2 : Int32) (l3 : Int32) (S : z_St) : z_R92 d (n + 1) 0 z [some (.ref 0), some (.int l1), some (.int l2), some (.int l3)] [] S = z_clv (z_ew d 101 [.ref 0, .int l1] S) (fun S1 => if (nI 7) ≤ (S1.1 24 12) then (z_R92 d n 39 z [some (.ref 0), some (.int l1), some (.int l2), some (.int l3)] [] S1) else (if l2 < (nI 1) then (z_R92 d n 39 z [some (.ref 0), some (.int l1), some (.int l2), some (.int l3)] [] S1) else (if (nI 99) < l2 then (z_R92 d n 39 z [some (.ref 0), some (.int l1), some (.int l2), some (.int l3)] [] S1) else (if l3 < 0 then (z_R92 d n 39 z [some (.ref 0), some (.int l1), some (.int l2), some (.int l3)] [] S1) else (if l3 ≤ (nI 999) then (z_R92 d n 54 z [some (.ref 0), some (.int l1), some (.int l2), some (.int l3)] [] S1) else (z_R92 d n 39 z [some (.ref 0), some (.int l1), some (.int l2), some (.int l3)] [] S1)))))) (z_hnd []) := by
  refine zs_run (L' := [some (.ref 0), some (.int l1), some (.int l2), some (.int l3)]) rfl rfl ?_
  exact zs_aload_n rfl (zs_iload_n rfl (zs_Vv rfl rfl (Or.inr ⟨Or.inl rfl, _, _, rfl, rfl⟩) (fun S1 => zs_aload_n rfl (zs_get3 rfl (zs_get0 (x := (S1.1 24 12)) rfl rfl (zs_bipush (v := nI 7) rfl (zs_ic_ge rfl (zs_iload_n rfl (zs_iconst (v := nI 1) rfl (zs_ic_lt rfl (zs_iload_n rfl (zs_bipush (v := nI 99) rfl (zs_ic_gt rfl (zs_iload_n rfl (zs_if_lt rfl (zs_iload_n rfl (zs_sipush (v := nI 999) rfl (zs_ic_le rfl (zs_nil rfl))))))))))))))))) (fun _ _ => rfl)))
set_option maxRecDepth 100000 in
theorem zq_92_39 (d n z : Nat)  (d1 d2 d3 : Option Value) (S : z_St) : z_R92 d (n + 1) 39 z [some (.ref 0), d1, d2, d3] [] S = some (.inl (some (.int (-nI 1))), ((z_w1 S.1 37 4 ((S.1 37 4) + (nI 1))), S.2)) := by
  refine zs_run (L' := [some (.ref 0), none, none, none]) rfl rfl ?_
  exact zs_aload_n rfl (zs_get3 rfl (zs_get2 (b := 37) rfl rfl (zs_iconst (v := nI 4) rfl (zs_dup2 (zs_x (zs_ia (v := (S.1 37 4)) rfl rfl rfl rfl (zs_iconst (v := nI 1) rfl (zs_iadd (zs_x (zs_ias (S' := ((z_w1 S.1 37 4 ((S.1 37 4) + (nI 1))), S.2)) rfl rfl rfl (zs_iconst (v := (-nI 1)) rfl (zs_iret rfl))) (z_ixn rfl rfl))))) (z_ixn rfl rfl))))))
set_option maxRecDepth 100000 in
theorem zq_92_54 (d n z : Nat) (l2 : Int32) (l3 : Int32) (d1 : Option Value) (S : z_St) : z_R92 d (n + 1) 54 z [some (.ref 0), d1, some (.int l2), some (.int l3)] [] S = z_cli (z_ew d 21 [.ref 24, .int l2, .int l3] S) (fun x2 S1 => some (.inl (some (.int x2)), S1)) (z_hnd []) := by
  refine zs_run (L' := [some (.ref 0), none, some (.int l2), some (.int l3)]) rfl rfl ?_
  exact zs_aload_n rfl (zs_get3 rfl (zs_iload_n rfl (zs_iload_n rfl (zs_Vi rfl rfl (Or.inr ⟨Or.inl rfl, _, _, rfl, rfl⟩) (fun x2 S1 => zs_iret rfl) (fun _ _ => rfl)))))
/-- SlipRoom.waiting()I -/
noncomputable def z_R93 (d : Nat) : Nat → z_K := z_run false (some .int) [] (z_ew d) z_b93
theorem ze_93 (d : Nat) (as : List Value) (S : z_St) (h : Nat.ble (z_sl as).length 1 = true) : z_ew (d + 1) 93 as S = z_R93 d z_fuel 0 0 (z_in 1 as) [] S := zs_ew h
set_option maxRecDepth 100000 in
theorem zq_93_0 (d n z : Nat)  (S : z_St) : z_R93 d (n + 1) 0 z [some (.ref 0)] [] S = z_cli (z_ew d 71 [.ref 64, .ref 24] S) (fun x2 S1 => some (.inl (some (.int x2)), S1)) (z_hnd []) := by
  refine zs_run (L' := [some (.ref 0)]) rfl rfl ?_
  exact zs_aload_n rfl (zs_get3 rfl (zs_aload_n rfl (zs_get3 rfl (zs_Vi rfl rfl (Or.inr ⟨Or.inl rfl, _, _, rfl, rfl⟩) (fun x2 S1 => zs_iret rfl) (fun _ _ => rfl)))))
/-- SlipRoom.turn(I)I -/
noncomputable def z_R94 (d : Nat) : Nat → z_K := z_run false (some .int) [] (z_ew d) z_b94
theorem ze_94 (d : Nat) (as : List Value) (S : z_St) (h : Nat.ble (z_sl as).length 2 = true) : z_ew (d + 1) 94 as S = z_R94 d z_fuel 0 0 (z_in 2 as) [] S := zs_ew h
set_option maxRecDepth 100000 in
theorem zq_94_0 (d n z : Nat) (l1 : Int32) (S : z_St) : z_R94 d (n + 1) 0 z [some (.ref 0), some (.int l1)] [] S = if l1 < 0 then (z_R94 d n 15 z [some (.ref 0), some (.int l1)] [] S) else (if l1 < (S.1 64 1) then (z_R94 d n 26 z [some (.ref 0), some (.int l1)] [] S) else (z_R94 d n 15 z [some (.ref 0), some (.int l1)] [] S)) := by
  refine zs_run (L' := [some (.ref 0), some (.int l1)]) rfl rfl ?_
  exact zs_iload_n rfl (zs_if_lt rfl (zs_iload_n rfl (zs_aload_n rfl (zs_get3 rfl (zs_get0 (x := (S.1 64 1)) rfl rfl (zs_ic_lt rfl (zs_nil rfl)))))))
set_option maxRecDepth 100000 in
theorem zq_94_15 (d n z : Nat)  (d0 d1 : Option Value) (S : z_St) : z_R94 d (n + 1) 15 z [d0, d1] [] S = some (.inr 0, S) := by
  refine zs_run (L' := [none, none]) rfl rfl ?_
  exact zs_thr rfl
set_option maxRecDepth 100000 in
theorem zq_94_26 (d n z : Nat) (l1 : Int32) (S : z_St) : z_R94 d (n + 1) 26 z [some (.ref 0), some (.int l1)] [] S = cond (z_ix l1 7) (some (.inl (some (.int (S.1 65 ((l1).toNatClampNeg)))), S)) none := by
  refine zs_run (L' := [some (.ref 0), some (.int l1)]) rfl rfl ?_
  exact zs_aload_n rfl (zs_get3 rfl (zs_get2 (b := 65) rfl rfl (zs_iload_n rfl (zs_ia (v := (S.1 65 ((l1).toNatClampNeg))) rfl rfl rfl rfl (zs_iret rfl)))))
/-- SlipRoom.tale(III)Z -/
noncomputable def z_R95 (d : Nat) : Nat → z_K := z_run false (some .boolean) [] (z_ew d) z_b95
theorem ze_95 (d : Nat) (as : List Value) (S : z_St) (h : Nat.ble (z_sl as).length 4 = true) : z_ew (d + 1) 95 as S = z_R95 d z_fuel 0 0 (z_in 4 as) [] S := zs_ew h
set_option maxRecDepth 100000 in
theorem zq_95_0 (d n z : Nat) (l1 : Int32) (l2 : Int32) (l3 : Int32) (S : z_St) : z_R95 d (n + 1) 0 z [some (.ref 0), some (.int l1), some (.int l2), some (.int l3)] [] S = z_clv (z_ew d 100 [.ref 0, .int l2] S) (fun S1 => if l1 < 0 then (z_R95 d n 26 z [some (.ref 0), some (.int l1), some (.int l2), some (.int l3)] [] S1) else (if (nI 6) ≤ l1 then (z_R95 d n 26 z [some (.ref 0), some (.int l1), some (.int l2), some (.int l3)] [] S1) else (if l3 < 0 then (z_R95 d n 26 z [some (.ref 0), some (.int l1), some (.int l2), some (.int l3)] [] S1) else (if l3 ≤ (nI 401) then (z_R95 d n 28 z [some (.ref 0), some (.int l1), some (.int l2), some (.int l3)] [] S1) else (z_R95 d n 26 z [some (.ref 0), some (.int l1), some (.int l2), some (.int l3)] [] S1))))) (z_hnd []) := by
  refine zs_run (L' := [some (.ref 0), some (.int l1), some (.int l2), some (.int l3)]) rfl rfl ?_
  exact zs_aload_n rfl (zs_iload_n rfl (zs_Vv rfl rfl (Or.inr ⟨Or.inl rfl, _, _, rfl, rfl⟩) (fun S1 => zs_iload_n rfl (zs_if_lt rfl (zs_iload_n rfl (zs_bipush (v := nI 6) rfl (zs_ic_ge rfl (zs_iload_n rfl (zs_if_lt rfl (zs_iload_n rfl (zs_sipush (v := nI 401) rfl (zs_ic_le rfl (zs_nil rfl))))))))))) (fun _ _ => rfl)))
set_option maxRecDepth 100000 in
theorem zq_95_26 (d n z : Nat)  (d0 d1 d2 d3 : Option Value) (S : z_St) : z_R95 d (n + 1) 26 z [d0, d1, d2, d3] [] S = some (.inl (some (.int (nI 0))), S) := by
  refine zs_run (L' := [none, none, none, none]) rfl rfl ?_
  exact zs_iconst (v := nI 0) rfl (zs_iret (by decide +kernel))
set_option maxRecDepth 100000 in
theorem zq_95_28 (d n z : Nat) (l1 : Int32) (l2 : Int32) (l3 : Int32) (S : z_St) : z_R95 d (n + 1) 28 z [some (.ref 0), some (.int l1), some (.int l2), some (.int l3)] [] S = cond (z_ix ((l1 * (nI 10)) + l2) 60) (some (.inl (some (.int (nI 1))), ((z_w1 S.1 36 ((((l1 * (nI 10)) + l2)).toNatClampNeg) l3), S.2))) none := by
  refine zs_run (L' := [some (.ref 0), some (.int l1), some (.int l2), some (.int l3)]) rfl rfl ?_
  exact zs_aload_n rfl (zs_get3 rfl (zs_get2 (b := 36) rfl rfl (zs_iload_n rfl (zs_bipush (v := nI 10) rfl (zs_imul (zs_iload_n rfl (zs_iadd (zs_iload_n rfl (zs_ias (S' := ((z_w1 S.1 36 ((((l1 * (nI 10)) + l2)).toNatClampNeg) l3), S.2)) rfl rfl rfl (zs_iconst (v := nI 1) rfl (zs_iret (by decide +kernel))))))))))))
/-- SlipRoom.settle(II)I -/
noncomputable def z_R96 (d : Nat) : Nat → z_K := z_run false (some .int) [] (z_ew d) z_b96
theorem ze_96 (d : Nat) (as : List Value) (S : z_St) (h : Nat.ble (z_sl as).length 3 = true) : z_ew (d + 1) 96 as S = z_R96 d z_fuel 0 0 (z_in 3 as) [] S := zs_ew h
set_option maxRecDepth 100000 in
theorem zq_96_0 (d n z : Nat) (l1 : Int32) (l2 : Int32) (S : z_St) : z_R96 d (n + 1) 0 z [some (.ref 0), some (.int l1), some (.int l2)] [] S = if l2 < 0 then (z_R96 d n 9 z [some (.ref 0), some (.int l1), some (.int l2)] [] S) else (if l2 ≤ (nI 1) then (z_R96 d n 20 z [some (.ref 0), some (.int l1), some (.int l2)] [] S) else (z_R96 d n 9 z [some (.ref 0), some (.int l1), some (.int l2)] [] S)) := by
  refine zs_run (L' := [some (.ref 0), some (.int l1), some (.int l2)]) rfl rfl ?_
  exact zs_iload_n rfl (zs_if_lt rfl (zs_iload_n rfl (zs_iconst (v := nI 1) rfl (zs_ic_le rfl (zs_nil rfl)))))
set_option maxRecDepth 100000 in
theorem zq_96_9 (d n z : Nat)  (d0 d1 d2 : Option Value) (S : z_St) : z_R96 d (n + 1) 9 z [d0, d1, d2] [] S = some (.inr 0, S) := by
  refine zs_run (L' := [none, none, none]) rfl rfl ?_
  exact zs_thr rfl
set_option maxRecDepth 100000 in
theorem zq_96_20 (d n z : Nat) (l1 : Int32) (l2 : Int32) (S : z_St) : z_R96 d (n + 1) 20 z [some (.ref 0), some (.int l1), some (.int l2)] [] S = if l1 < 0 then (z_R96 d n 30 z [some (.ref 0), some (.int l1), some (.int l2)] [] S) else (if l1 < (nI 64) then (z_R96 d n 41 z [some (.ref 0), some (.int l1), some (.int l2)] [] S) else (z_R96 d n 30 z [some (.ref 0), some (.int l1), some (.int l2)] [] S)) := by
  refine zs_run (L' := [some (.ref 0), some (.int l1), some (.int l2)]) rfl rfl ?_
  exact zs_iload_n rfl (zs_if_lt rfl (zs_iload_n rfl (zs_bipush (v := nI 64) rfl (zs_ic_lt rfl (zs_nil rfl)))))
set_option maxRecDepth 100000 in
theorem zq_96_30 (d n z : Nat)  (d0 d1 d2 : Option Value) (S : z_St) : z_R96 d (n + 1) 30 z [d0, d1, d2] [] S = some (.inr 1, S) := by
  refine zs_run (L' := [none, none, none]) rfl rfl ?_
  exact zs_thr rfl
set_option maxRecDepth 100000 in
theorem zq_96_41 (d n z : Nat) (l1 : Int32) (l2 : Int32) (S : z_St) : z_R96 d (n + 1) 41 z [some (.ref 0), some (.int l1), some (.int l2)] [] S = cond (decide ((S.1 0 3) = -1)) none (cond (z_isO 3 (((S.1 0 3)).toNatClampNeg)) (z_clv (z_ew d 38 [.ref 67, .ref 36, .int (S.1 (((S.1 0 3)).toNatClampNeg) 0), .int l1] S) (fun S1 => if l2 = 0 then (cond (z_ix l1 64) (z_R96 d n 88 z [some (.ref 0), some (.int l1), some (.int l2)] [.int (S1.1 68 ((l1).toNatClampNeg))] S1) none) else (z_R96 d n 79 z [some (.ref 0), some (.int l1), some (.int l2)] [] S1)) (z_hnd [])) none) := by
  refine zs_run (L' := [some (.ref 0), some (.int l1), some (.int l2)]) rfl rfl ?_
  exact zs_aload_n rfl (zs_get3 rfl (zs_aload_n rfl (zs_get3 rfl (zs_get2 (b := 36) rfl rfl (zs_aload_n rfl (zs_get1 (x := (S.1 0 3)) rfl rfl (zs_get0c (x := (S.1 (((S.1 0 3)).toNatClampNeg) 0)) rfl (zs_iload_n rfl (zs_Vv rfl rfl (Or.inr ⟨Or.inl rfl, _, _, rfl, rfl⟩) (fun S1 => zs_iload_n rfl (zs_if_ne rfl (zs_aload_n rfl (zs_get3 rfl (zs_get2 (b := 68) rfl rfl (zs_iload_n rfl (zs_ia (v := (S1.1 68 ((l1).toNatClampNeg))) rfl rfl rfl rfl (zs_goto rfl)))))))) (fun _ _ => rfl))))))))))
set_option maxRecDepth 100000 in
theorem zq_96_79 (d n z : Nat) (l1 : Int32) (d2 : Option Value) (S : z_St) : z_R96 d (n + 1) 79 z [some (.ref 0), some (.int l1), d2] [] S = cond (z_ix l1 64) (z_R96 d n 88 z [some (.ref 0), some (.int l1), none] [.int (S.1 69 ((l1).toNatClampNeg))] S) none := by
  refine zs_run (L' := [some (.ref 0), some (.int l1), none]) rfl rfl ?_
  exact zs_aload_n rfl (zs_get3 rfl (zs_get2 (b := 69) rfl rfl (zs_iload_n rfl (zs_ia (v := (S.1 69 ((l1).toNatClampNeg))) rfl rfl rfl rfl (zs_nil rfl)))))
set_option maxRecDepth 100000 in
theorem zq_96_88 (d n z : Nat) (t0 : Int32) (d0 d1 d2 : Option Value) (S : z_St) : z_R96 d (n + 1) 88 z [d0, d1, d2] [.int t0] S = some (.inl (some (.int t0)), S) := by
  refine zs_run (L' := [none, none, none]) rfl rfl ?_
  exact zs_iret rfl
/-- SlipRoom.image()V -/
noncomputable def z_R97 (d : Nat) : Nat → z_K := z_run false none [] (z_ew d) z_b97
theorem ze_97 (d : Nat) (as : List Value) (S : z_St) (h : Nat.ble (z_sl as).length 1 = true) : z_ew (d + 1) 97 as S = z_R97 d z_fuel 0 0 (z_in 1 as) [] S := zs_ew h
set_option maxRecDepth 100000 in
theorem zq_97_0 (d n z : Nat)  (S : z_St) : z_R97 d (n + 1) 0 z [some (.ref 0)] [] S = z_clv (z_ew d 6 [.ref 38, .ref 24] S) (fun S1 => some (.inl none, ((z_w1 S1.1 0 8 (nI 1)), S1.2))) (z_hnd []) := by
  refine zs_run (L' := [some (.ref 0)]) rfl rfl ?_
  exact zs_aload_n rfl (zs_get3 rfl (zs_aload_n rfl (zs_get3 rfl (zs_Vv rfl rfl (Or.inr ⟨Or.inl rfl, _, _, rfl, rfl⟩) (fun S1 => zs_aload_n rfl (zs_iconst (v := nI 1) rfl (zs_put (S' := ((z_w1 S1.1 0 8 (nI 1)), S1.2)) (by decide +kernel) rfl (zs_ret rfl)))) (fun _ _ => rfl)))))
/-- SlipRoom.restore()Z -/
noncomputable def z_R98 (d : Nat) : Nat → z_K := z_run false (some .boolean) [] (z_ew d) z_b98
theorem ze_98 (d : Nat) (as : List Value) (S : z_St) (h : Nat.ble (z_sl as).length 1 = true) : z_ew (d + 1) 98 as S = z_R98 d z_fuel 0 0 (z_in 1 as) [] S := zs_ew h
set_option maxRecDepth 100000 in
theorem zq_98_0 (d n z : Nat)  (S : z_St) : z_R98 d (n + 1) 0 z [some (.ref 0)] [] S = if (S.1 0 8) = 0 then (z_R98 d n 18 z [some (.ref 0)] [] S) else (z_clv (z_ew d 6 [.ref 24, .ref 38] S) (fun S1 => z_R98 d n 18 z [some (.ref 0)] [] S1) (z_hnd [])) := by
  refine zs_run (L' := [some (.ref 0)]) rfl rfl ?_
  exact zs_aload_n rfl (zs_get0 (x := (S.1 0 8)) rfl rfl (zs_if_eq rfl (zs_aload_n rfl (zs_get3 rfl (zs_aload_n rfl (zs_get3 rfl (zs_Vv rfl rfl (Or.inr ⟨Or.inl rfl, _, _, rfl, rfl⟩) (fun S1 => zs_nil rfl) (fun _ _ => rfl))))))))
set_option maxRecDepth 100000 in
theorem zq_98_18 (d n z : Nat)  (S : z_St) : z_R98 d (n + 1) 18 z [some (.ref 0)] [] S = cond (z_rb (some .boolean) (S.1 0 8)) (some (.inl (some (.int (S.1 0 8))), S)) none := by
  refine zs_run (L' := [some (.ref 0)]) rfl rfl ?_
  exact zs_aload_n rfl (zs_get0 (x := (S.1 0 8)) rfl rfl (zs_iretc))
/-- SlipRoom.putBytes(I)V -/
noncomputable def z_R99 (d : Nat) : Nat → z_K := z_run false none [] (z_ew d) z_b99
theorem ze_99 (d : Nat) (as : List Value) (S : z_St) (h : Nat.ble (z_sl as).length 3 = true) : z_ew (d + 1) 99 as S = z_R99 d z_fuel 0 0 (z_in 3 as) [] S := zs_ew h
set_option maxRecDepth 100000 in
theorem zq_99_0 (d n z : Nat) (l1 : Int32) (d2 : Option Value) (S : z_St) : z_R99 d (n + 1) 0 z [some (.ref 0), some (.int l1), d2] [] S = z_R99 d n 3 z [some (.ref 0), some (.int l1), some (.int (nI 24))] [] S := by
  refine zs_run (L' := [some (.ref 0), some (.int l1), none]) rfl rfl ?_
  exact zs_bipush (v := nI 24) rfl (zs_istore_n (L' := [some (.ref 0), some (.int l1), some (.int (nI 24))]) rfl rfl (zs_nil rfl))
set_option maxRecDepth 100000 in
theorem zq_99_3 (d n z : Nat) (l1 : Int32) (l2 : Int32) (S : z_St) : z_R99 d (n + 1) 3 z [some (.ref 0), some (.int l1), some (.int l2)] [] S = if l2 < 0 then (z_R99 d n 46 z [some (.ref 0), some (.int l1), some (.int l2)] [] S) else (if (nI 700) ≤ (S.1 0 1) then (z_R99 d n 46 z [some (.ref 0), some (.int l1), some (.int l2)] [] S) else (cond (z_ix (S.1 0 1) 700) (z_R99 d n 3 z [some (.ref 0), some (.int l1), some (.int (l2 + (-nI 8)))] [] ((z_w1 (z_w1 S.1 1 (((S.1 0 1)).toNatClampNeg) (vp_nar .byte (Int8.toInt32 (Int32.toInt8 (((Int32.toUInt32 l1) >>> (Int32.toUInt32 l2 &&& Int32.toUInt32 31)).toInt32))))) 0 1 ((S.1 0 1) + (nI 1))), S.2)) none)) := by
  refine zs_run (L' := [some (.ref 0), some (.int l1), some (.int l2)]) rfl rfl ?_
  exact zs_iload_n rfl (zs_if_lt rfl (zs_aload_n rfl (zs_get0 (x := (S.1 0 1)) rfl rfl (zs_sipush (v := nI 700) rfl (zs_ic_ge rfl (zs_aload_n rfl (zs_get3 rfl (zs_aload_n rfl (zs_get0 (x := (S.1 0 1)) rfl rfl (zs_iload_n rfl (zs_iload_n rfl (zs_iushr (zs_i2b (zs_bas2 (S' := ((z_w1 S.1 1 (((S.1 0 1)).toNatClampNeg) (vp_nar .byte (Int8.toInt32 (Int32.toInt8 (((Int32.toUInt32 l1) >>> (Int32.toUInt32 l2 &&& Int32.toUInt32 31)).toInt32))))), S.2)) rfl rfl rfl (zs_aload_n rfl (zs_dupr (zs_get0 (x := (S.1 0 1)) rfl rfl (zs_iconst (v := nI 1) rfl (zs_iadd (zs_put (S' := ((z_w1 (z_w1 S.1 1 (((S.1 0 1)).toNatClampNeg) (vp_nar .byte (Int8.toInt32 (Int32.toInt8 (((Int32.toUInt32 l1) >>> (Int32.toUInt32 l2 &&& Int32.toUInt32 31)).toInt32))))) 0 1 ((S.1 0 1) + (nI 1))), S.2)) rfl rfl (zs_iinc (v := (-nI 8)) (L' := [some (.ref 0), some (.int l1), some (.int (l2 + (-nI 8)))]) rfl rfl rfl rfl (zs_goto rfl))))))))))))))))))))))
set_option maxRecDepth 100000 in
theorem zq_99_46 (d n z : Nat)  (d0 d1 d2 : Option Value) (S : z_St) : z_R99 d (n + 1) 46 z [d0, d1, d2] [] S = some (.inl none, S) := by
  refine zs_run (L' := [none, none, none]) rfl rfl ?_
  exact zs_ret rfl
/-- SlipRoom.requireBook(I)V -/
noncomputable def z_R100 (d : Nat) : Nat → z_K := z_run false none [] (z_ew d) z_b100
theorem ze_100 (d : Nat) (as : List Value) (S : z_St) (h : Nat.ble (z_sl as).length 2 = true) : z_ew (d + 1) 100 as S = z_R100 d z_fuel 0 0 (z_in 2 as) [] S := zs_ew h
set_option maxRecDepth 100000 in
theorem zq_100_0 (d n z : Nat) (l1 : Int32) (S : z_St) : z_R100 d (n + 1) 0 z [some (.ref 0), some (.int l1)] [] S = if l1 < 0 then (z_R100 d n 15 z [some (.ref 0), some (.int l1)] [] S) else (cond (decide ((S.1 0 3) = -1)) none (cond (z_isO 3 (((S.1 0 3)).toNatClampNeg)) (if l1 < (S.1 (((S.1 0 3)).toNatClampNeg) 0) then (z_R100 d n 26 z [some (.ref 0), some (.int l1)] [] S) else (z_R100 d n 15 z [some (.ref 0), some (.int l1)] [] S)) none)) := by
  refine zs_run (L' := [some (.ref 0), some (.int l1)]) rfl rfl ?_
  exact zs_iload_n rfl (zs_if_lt rfl (zs_iload_n rfl (zs_aload_n rfl (zs_get1 (x := (S.1 0 3)) rfl rfl (zs_get0c (x := (S.1 (((S.1 0 3)).toNatClampNeg) 0)) rfl (zs_ic_lt rfl (zs_nil rfl)))))))
set_option maxRecDepth 100000 in
theorem zq_100_15 (d n z : Nat)  (d0 d1 : Option Value) (S : z_St) : z_R100 d (n + 1) 15 z [d0, d1] [] S = some (.inr 0, S) := by
  refine zs_run (L' := [none, none]) rfl rfl ?_
  exact zs_thr rfl
set_option maxRecDepth 100000 in
theorem zq_100_26 (d n z : Nat)  (d0 d1 : Option Value) (S : z_St) : z_R100 d (n + 1) 26 z [d0, d1] [] S = some (.inl none, S) := by
  refine zs_run (L' := [none, none]) rfl rfl ?_
  exact zs_ret rfl
/-- SlipRoom.requireReader(I)V -/
noncomputable def z_R101 (d : Nat) : Nat → z_K := z_run false none [] (z_ew d) z_b101
theorem ze_101 (d : Nat) (as : List Value) (S : z_St) (h : Nat.ble (z_sl as).length 2 = true) : z_ew (d + 1) 101 as S = z_R101 d z_fuel 0 0 (z_in 2 as) [] S := zs_ew h
set_option maxRecDepth 100000 in
theorem zq_101_0 (d n z : Nat) (l1 : Int32) (S : z_St) : z_R101 d (n + 1) 0 z [some (.ref 0), some (.int l1)] [] S = if l1 < 0 then (z_R101 d n 15 z [some (.ref 0), some (.int l1)] [] S) else (cond (decide ((S.1 0 3) = -1)) none (cond (z_isO 3 (((S.1 0 3)).toNatClampNeg)) (if l1 < (S.1 (((S.1 0 3)).toNatClampNeg) 3) then (z_R101 d n 26 z [some (.ref 0), some (.int l1)] [] S) else (z_R101 d n 15 z [some (.ref 0), some (.int l1)] [] S)) none)) := by
  refine zs_run (L' := [some (.ref 0), some (.int l1)]) rfl rfl ?_
  exact zs_iload_n rfl (zs_if_lt rfl (zs_iload_n rfl (zs_aload_n rfl (zs_get1 (x := (S.1 0 3)) rfl rfl (zs_get0c (x := (S.1 (((S.1 0 3)).toNatClampNeg) 3)) rfl (zs_ic_lt rfl (zs_nil rfl)))))))
set_option maxRecDepth 100000 in
theorem zq_101_15 (d n z : Nat)  (d0 d1 : Option Value) (S : z_St) : z_R101 d (n + 1) 15 z [d0, d1] [] S = some (.inr 0, S) := by
  refine zs_run (L' := [none, none]) rfl rfl ?_
  exact zs_thr rfl
set_option maxRecDepth 100000 in
theorem zq_101_26 (d n z : Nat)  (d0 d1 : Option Value) (S : z_St) : z_R101 d (n + 1) 26 z [d0, d1] [] S = some (.inl none, S) := by
  refine zs_run (L' := [none, none]) rfl rfl ?_
  exact zs_ret rfl
/-- SlipRoom.refused(I)I -/
noncomputable def z_R102 (d : Nat) : Nat → z_K := z_run false (some .int) [] (z_ew d) z_b102
theorem ze_102 (d : Nat) (as : List Value) (S : z_St) (h : Nat.ble (z_sl as).length 2 = true) : z_ew (d + 1) 102 as S = z_R102 d z_fuel 0 0 (z_in 2 as) [] S := zs_ew h
set_option maxRecDepth 100000 in
theorem zq_102_0 (d n z : Nat) (l1 : Int32) (S : z_St) : z_R102 d (n + 1) 0 z [some (.ref 0), some (.int l1)] [] S = if l1 < (nI 7) then (z_R102 d n 12 z [some (.ref 0), some (.int l1)] [] S) else (if l1 < (nI 12) then (z_R102 d n 23 z [some (.ref 0), some (.int l1)] [] S) else (z_R102 d n 12 z [some (.ref 0), some (.int l1)] [] S)) := by
  refine zs_run (L' := [some (.ref 0), some (.int l1)]) rfl rfl ?_
  exact zs_iload_n rfl (zs_bipush (v := nI 7) rfl (zs_ic_lt rfl (zs_iload_n rfl (zs_bipush (v := nI 12) rfl (zs_ic_lt rfl (zs_nil rfl))))))
set_option maxRecDepth 100000 in
theorem zq_102_12 (d n z : Nat)  (d0 d1 : Option Value) (S : z_St) : z_R102 d (n + 1) 12 z [d0, d1] [] S = some (.inr 0, S) := by
  refine zs_run (L' := [none, none]) rfl rfl ?_
  exact zs_thr rfl
set_option maxRecDepth 100000 in
theorem zq_102_23 (d n z : Nat) (l1 : Int32) (S : z_St) : z_R102 d (n + 1) 23 z [some (.ref 0), some (.int l1)] [] S = cond (z_ix (l1 - (nI 7)) 5) (some (.inl (some (.int (S.1 37 (((l1 - (nI 7))).toNatClampNeg)))), S)) none := by
  refine zs_run (L' := [some (.ref 0), some (.int l1)]) rfl rfl ?_
  exact zs_aload_n rfl (zs_get3 rfl (zs_get2 (b := 37) rfl rfl (zs_iload_n rfl (zs_bipush (v := nI 7) rfl (zs_isub (zs_ia (v := (S.1 37 (((l1 - (nI 7))).toNatClampNeg))) rfl rfl rfl rfl (zs_iret rfl)))))))
/-- SlipRoom.cellOf(II)I -/
noncomputable def z_R103 (d : Nat) : Nat → z_K := z_run false (some .int) [] (z_ew d) z_b103
theorem ze_103 (d : Nat) (as : List Value) (S : z_St) (h : Nat.ble (z_sl as).length 2 = true) : z_ew (d + 1) 103 as S = z_R103 d z_fuel 0 0 (z_in 2 as) [] S := zs_ew h
set_option maxRecDepth 100000 in
theorem zq_103_0 (d n z : Nat) (l0 : Int32) (l1 : Int32) (S : z_St) : z_R103 d (n + 1) 0 z [some (.int l0), some (.int l1)] [] S = some (.inl (some (.int ((l0 * (nI 10)) + l1))), S) := by
  refine zs_run (L' := [some (.int l0), some (.int l1)]) rfl rfl ?_
  exact zs_iload_n rfl (zs_bipush (v := nI 10) rfl (zs_imul (zs_iload_n rfl (zs_iadd (zs_iret rfl)))))
/-- SlipRoom.onlyOne(I)I -/
noncomputable def z_R104 (d : Nat) : Nat → z_K := z_run false (some .int) [] (z_ew d) z_b104
theorem ze_104 (d : Nat) (as : List Value) (S : z_St) (h : Nat.ble (z_sl as).length 3 = true) : z_ew (d + 1) 104 as S = z_R104 d z_fuel 0 0 (z_in 3 as) [] S := zs_ew h
set_option maxRecDepth 100000 in
theorem zq_104_0 (d n z : Nat) (l0 : Int32) (d1 d2 : Option Value) (S : z_St) : z_R104 d (n + 1) 0 z [some (.int l0), d1, d2] [] S = z_R104 d n 4 z [some (.int l0), some (.int (-nI 1)), some (.int (nI 0))] [] S := by
  refine zs_run (L' := [some (.int l0), none, none]) rfl rfl ?_
  exact zs_iconst (v := (-nI 1)) rfl (zs_istore_n (L' := [some (.int l0), some (.int (-nI 1)), none]) rfl rfl (zs_iconst (v := nI 0) rfl (zs_istore_n (L' := [some (.int l0), some (.int (-nI 1)), some (.int (nI 0))]) rfl rfl (zs_nil rfl))))
set_option maxRecDepth 100000 in
theorem zq_104_4 (d n z : Nat) (l0 : Int32) (l1 : Int32) (l2 : Int32) (S : z_St) : z_R104 d (n + 1) 4 z [some (.int l0), some (.int l1), some (.int l2)] [] S = if (nI 8) ≤ l2 then (z_R104 d n 25 z [some (.int l0), some (.int l1), some (.int l2)] [] S) else (if l0 = ((nI 1) <<< (l2 &&& 31)) then (z_R104 d n 19 z [some (.int l0), some (.int l2), some (.int l2)] [] S) else (z_R104 d n 19 z [some (.int l0), some (.int l1), some (.int l2)] [] S)) := by
  refine zs_run (L' := [some (.int l0), some (.int l1), some (.int l2)]) rfl rfl ?_
  exact zs_iload_n rfl (zs_bipush (v := nI 8) rfl (zs_ic_ge rfl (zs_iload_n rfl (zs_iconst (v := nI 1) rfl (zs_iload_n rfl (zs_ishl (zs_ic_ne rfl (zs_iload_n rfl (zs_istore_n (L' := [some (.int l0), some (.int l2), some (.int l2)]) rfl rfl (zs_nil rfl))))))))))
set_option maxRecDepth 100000 in
theorem zq_104_19 (d n z : Nat) (l0 : Int32) (l1 : Int32) (l2 : Int32) (S : z_St) : z_R104 d (n + 1) 19 z [some (.int l0), some (.int l1), some (.int l2)] [] S = z_R104 d n 4 z [some (.int l0), some (.int l1), some (.int (l2 + (nI 1)))] [] S := by
  refine zs_run (L' := [some (.int l0), some (.int l1), some (.int l2)]) rfl rfl ?_
  exact zs_iinc (v := nI 1) (L' := [some (.int l0), some (.int l1), some (.int (l2 + (nI 1)))]) rfl rfl rfl rfl (zs_goto rfl)
set_option maxRecDepth 100000 in
theorem zq_104_25 (d n z : Nat) (l1 : Int32) (d0 d2 : Option Value) (S : z_St) : z_R104 d (n + 1) 25 z [d0, some (.int l1), d2] [] S = some (.inl (some (.int l1)), S) := by
  refine zs_run (L' := [none, some (.int l1), none]) rfl rfl ?_
  exact zs_iload_n rfl (zs_iret rfl)
/-- SlipRoom.mayLend(IIII)Z -/
noncomputable def z_R105 (d : Nat) : Nat → z_K := z_run false (some .boolean) [] (z_ew d) z_b105
theorem ze_105 (d : Nat) (as : List Value) (S : z_St) (h : Nat.ble (z_sl as).length 5 = true) : z_ew (d + 1) 105 as S = z_R105 d z_fuel 0 0 (z_in 5 as) [] S := zs_ew h
set_option maxRecDepth 100000 in
theorem zq_105_0 (d n z : Nat) (l1 : Int32) (l2 : Int32) (l3 : Int32) (l4 : Int32) (S : z_St) : z_R105 d (n + 1) 0 z [some (.ref 0), some (.int l1), some (.int l2), some (.int l3), some (.int l4)] [] S = if (nI 200) ≤ (S.1 24 0) then (z_R105 d n 26 z [some (.ref 0), some (.int l1), some (.int l2), some (.int l3), some (.int l4)] [] S) else (if l4 < (nI 1) then (z_R105 d n 26 z [some (.ref 0), some (.int l1), some (.int l2), some (.int l3), some (.int l4)] [] S) else (if l4 ≤ (nI 24) then (z_R105 d n 28 z [some (.ref 0), some (.int l1), some (.int l2), some (.int l3), some (.int l4)] [] S) else (z_R105 d n 26 z [some (.ref 0), some (.int l1), some (.int l2), some (.int l3), some (.int l4)] [] S))) := by
  refine zs_run (L' := [some (.ref 0), some (.int l1), some (.int l2), some (.int l3), some (.int l4)]) rfl rfl ?_
  exact zs_aload_n rfl (zs_get3 rfl (zs_get0 (x := (S.1 24 0)) rfl rfl (zs_sipush (v := nI 200) rfl (zs_ic_ge rfl (zs_iload rfl (zs_iconst (v := nI 1) rfl (zs_ic_lt rfl (zs_iload rfl (zs_bipush (v := nI 24) rfl (zs_ic_le rfl (zs_nil rfl)))))))))))
set_option maxRecDepth 100000 in
theorem zq_105_26 (d n z : Nat)  (d0 d1 d2 d3 d4 : Option Value) (S : z_St) : z_R105 d (n + 1) 26 z [d0, d1, d2, d3, d4] [] S = some (.inl (some (.int (nI 0))), S) := by
  refine zs_run (L' := [none, none, none, none, none]) rfl rfl ?_
  exact zs_iconst (v := nI 0) rfl (zs_iret (by decide +kernel))
set_option maxRecDepth 100000 in
theorem zq_105_28 (d n z : Nat) (l1 : Int32) (l2 : Int32) (l3 : Int32) (l4 : Int32) (S : z_St) : z_R105 d (n + 1) 28 z [some (.ref 0), some (.int l1), some (.int l2), some (.int l3), some (.int l4)] [] S = if l3 < (S.1 24 2) then (z_R105 d n 88 z [some (.ref 0), some (.int l1), some (.int l2), some (.int l3), some (.int l4)] [] S) else (if (nI 8759) < l3 then (z_R105 d n 88 z [some (.ref 0), some (.int l1), some (.int l2), some (.int l3), some (.int l4)] [] S) else (if (nI 8759) < ((l3 + l4) - (nI 1)) then (z_R105 d n 88 z [some (.ref 0), some (.int l1), some (.int l2), some (.int l3), some (.int l4)] [] S) else (cond (z_ix l1 8) (if l3 < (S.1 27 ((l1).toNatClampNeg)) then (z_R105 d n 88 z [some (.ref 0), some (.int l1), some (.int l2), some (.int l3), some (.int l4)] [] S) else (cond (z_ix l2 10) (if l3 < (S.1 26 ((l2).toNatClampNeg)) then (z_R105 d n 88 z [some (.ref 0), some (.int l1), some (.int l2), some (.int l3), some (.int l4)] [] S) else (z_R105 d n 89 z [some (.ref 0), some (.int l1), some (.int l2), some (.int l3), some (.int l4)] [.int (nI 1)] S)) none)) none))) := by
  refine zs_run (L' := [some (.ref 0), some (.int l1), some (.int l2), some (.int l3), some (.int l4)]) rfl rfl ?_
  exact zs_iload_n rfl (zs_aload_n rfl (zs_get3 rfl (zs_get0 (x := (S.1 24 2)) rfl rfl (zs_ic_lt rfl (zs_iload_n rfl (zs_sipush (v := nI 8759) rfl (zs_ic_gt rfl (zs_iload_n rfl (zs_iload rfl (zs_iadd (zs_iconst (v := nI 1) rfl (zs_isub (zs_sipush (v := nI 8759) rfl (zs_ic_gt rfl (zs_iload_n rfl (zs_aload_n rfl (zs_get3 rfl (zs_get2 (b := 27) rfl rfl (zs_iload_n rfl (zs_ia (v := (S.1 27 ((l1).toNatClampNeg))) rfl rfl rfl rfl (zs_ic_lt rfl (zs_iload_n rfl (zs_aload_n rfl (zs_get3 rfl (zs_get2 (b := 26) rfl rfl (zs_iload_n rfl (zs_ia (v := (S.1 26 ((l2).toNatClampNeg))) rfl rfl rfl rfl (zs_ic_lt rfl (zs_iconst (v := nI 1) rfl (zs_goto rfl))))))))))))))))))))))))))))))
set_option maxRecDepth 100000 in
theorem zq_105_88 (d n z : Nat)  (d0 d1 d2 d3 d4 : Option Value) (S : z_St) : z_R105 d (n + 1) 88 z [d0, d1, d2, d3, d4] [] S = z_R105 d n 89 z [none, none, none, none, none] [.int (nI 0)] S := by
  refine zs_run (L' := [none, none, none, none, none]) rfl rfl ?_
  exact zs_iconst (v := nI 0) rfl (zs_nil rfl)
set_option maxRecDepth 100000 in
theorem zq_105_89 (d n z : Nat) (t0 : Int32) (d0 d1 d2 d3 d4 : Option Value) (S : z_St) : z_R105 d (n + 1) 89 z [d0, d1, d2, d3, d4] [.int t0] S = cond (z_rb (some .boolean) t0) (some (.inl (some (.int t0)), S)) none := by
  refine zs_run (L' := [none, none, none, none, none]) rfl rfl ?_
  exact zs_iretc
/-- SlipRoom.beginOf(II)I -/
noncomputable def z_R106 (d : Nat) : Nat → z_K := z_run false (some .int) [] (z_ew d) z_b106
theorem ze_106 (d : Nat) (as : List Value) (S : z_St) (h : Nat.ble (z_sl as).length 4 = true) : z_ew (d + 1) 106 as S = z_R106 d z_fuel 0 0 (z_in 4 as) [] S := zs_ew h
set_option maxRecDepth 100000 in
theorem zq_106_0 (d n z : Nat) (l1 : Int32) (l2 : Int32) (d3 : Option Value) (S : z_St) : z_R106 d (n + 1) 0 z [some (.ref 0), some (.int l1), some (.int l2), d3] [] S = z_cli (z_ew d 103 [.int l1, .int l2] S) (fun x2 S1 => cond (z_ix x2 80) (if (S1.1 29 ((x2).toNatClampNeg)) = 0 then (some (.inl (some (.int (nI 1))), S1)) else (z_R106 d n 20 z [some (.ref 0), some (.int l1), some (.int l2), some (.int x2)] [] S1)) none) (z_hnd []) := by
  refine zs_run (L' := [some (.ref 0), some (.int l1), some (.int l2), none]) rfl rfl ?_
  exact zs_iload_n rfl (zs_iload_n rfl (zs_Si rfl rfl (Or.inl (Or.inl rfl)) (fun x2 S1 => zs_istore_n (L' := [some (.ref 0), some (.int l1), some (.int l2), some (.int x2)]) rfl rfl (zs_aload_n rfl (zs_get3 rfl (zs_get2 (b := 29) rfl rfl (zs_iload_n rfl (zs_ia (v := (S1.1 29 ((x2).toNatClampNeg))) rfl rfl rfl rfl (zs_if_ne rfl (zs_iconst (v := nI 1) rfl (zs_iret rfl))))))))) (fun _ _ => rfl)))
set_option maxRecDepth 100000 in
theorem zq_106_20 (d n z : Nat) (l1 : Int32) (l2 : Int32) (l3 : Int32) (S : z_St) : z_R106 d (n + 1) 20 z [some (.ref 0), some (.int l1), some (.int l2), some (.int l3)] [] S = cond (z_ix l3 80) (if (S.1 28 ((l3).toNatClampNeg)) = (-nI 1) then (z_R106 d n 57 z [some (.ref 0), some (.int l1), some (.int l2), some (.int l3)] [] S) else (cond (z_ix l3 80) (cond (decide ((S.1 0 3) = -1)) none (cond (z_isO 3 (((S.1 0 3)).toNatClampNeg)) (cond (Nat.beq (z_at (((S.1 0 3)).toNatClampNeg + 5)) 1 && z_ix l1 (z_ln (((S.1 0 3)).toNatClampNeg + 5))) (z_cli (z_ew d 187 [.int (nI 1), .int ((S.1 28 ((l3).toNatClampNeg)) - (S.1 (((S.1 0 3)).toNatClampNeg + 5) ((l1).toNatClampNeg)))] S) (fun x2 S1 => some (.inl (some (.int x2)), S1)) (z_hnd [])) none) none)) none)) none := by
  refine zs_run (L' := [some (.ref 0), some (.int l1), some (.int l2), some (.int l3)]) rfl rfl ?_
  exact zs_aload_n rfl (zs_get3 rfl (zs_get2 (b := 28) rfl rfl (zs_iload_n rfl (zs_ia (v := (S.1 28 ((l3).toNatClampNeg))) rfl rfl rfl rfl (zs_iconst (v := (-nI 1)) rfl (zs_ic_eq rfl (zs_iconst (v := nI 1) rfl (zs_aload_n rfl (zs_get3 rfl (zs_get2 (b := 28) rfl rfl (zs_iload_n rfl (zs_ia (v := (S.1 28 ((l3).toNatClampNeg))) rfl rfl rfl rfl (zs_aload_n rfl (zs_get1 (x := (S.1 0 3)) rfl rfl (zs_get2c (b := (((S.1 0 3)).toNatClampNeg + 5)) rfl (zs_iload_n rfl (zs_iac (v := (S.1 (((S.1 0 3)).toNatClampNeg + 5) ((l1).toNatClampNeg))) rfl rfl (zs_isub (zs_Si rfl rfl (Or.inl (Or.inl rfl)) (fun x2 S1 => zs_iret rfl) (fun _ _ => rfl))))))))))))))))))))
set_option maxRecDepth 100000 in
theorem zq_106_57 (d n z : Nat) (l2 : Int32) (l3 : Int32) (d1 : Option Value) (S : z_St) : z_R106 d (n + 1) 57 z [some (.ref 0), d1, some (.int l2), some (.int l3)] [] S = cond (decide ((S.1 0 3) = -1)) none (cond (z_ix l3 80) (cond (decide ((S.1 0 3) = -1)) none (cond (z_isO 3 (((S.1 0 3)).toNatClampNeg)) (cond (Nat.beq (z_at (((S.1 0 3)).toNatClampNeg + 1)) 1 && z_ix l2 (z_ln (((S.1 0 3)).toNatClampNeg + 1))) (z_cli (z_ew d 188 [.int (S.1 29 ((l3).toNatClampNeg)), .int (S.1 (((S.1 0 3)).toNatClampNeg + 1) ((l2).toNatClampNeg))] S) (fun x2 S1 => cond (z_isO 3 (((S.1 0 3)).toNatClampNeg)) (z_cli (z_ew d 37 [.ref (((S.1 0 3)).toNatClampNeg), .int l2, .int x2] S1) (fun x4 S3 => some (.inl (some (.int x4)), S3)) (z_hnd [])) none) (z_hnd [])) none) none)) none) := by
  refine zs_run (L' := [some (.ref 0), none, some (.int l2), some (.int l3)]) rfl rfl ?_
  exact zs_aload_n rfl (zs_get1 (x := (S.1 0 3)) rfl rfl (zs_iload_n rfl (zs_aload_n rfl (zs_get3 rfl (zs_get2 (b := 29) rfl rfl (zs_iload_n rfl (zs_ia (v := (S.1 29 ((l3).toNatClampNeg))) rfl rfl rfl rfl (zs_aload_n rfl (zs_get1 (x := (S.1 0 3)) rfl rfl (zs_get2c (b := (((S.1 0 3)).toNatClampNeg + 1)) rfl (zs_iload_n rfl (zs_iac (v := (S.1 (((S.1 0 3)).toNatClampNeg + 1) ((l2).toNatClampNeg))) rfl rfl (zs_Si rfl rfl (Or.inl (Or.inl rfl)) (fun x2 S1 => zs_Vic rfl rfl (Or.inl rfl) (fun x4 S3 => zs_iret rfl) (fun _ _ => rfl)) (fun _ _ => rfl))))))))))))))
/-- SlipRoom.readLoan(IIIII)I -/
noncomputable def z_R107 (d : Nat) : Nat → z_K := z_run false (some .int) [] (z_ew d) z_b107
theorem ze_107 (d : Nat) (as : List Value) (S : z_St) (h : Nat.ble (z_sl as).length 8 = true) : z_ew (d + 1) 107 as S = z_R107 d z_fuel 0 0 (z_in 8 as) [] S := zs_ew h
set_option maxRecDepth 100000 in
theorem zq_107_0 (d n z : Nat) (l1 : Int32) (l2 : Int32) (l3 : Int32) (l4 : Int32) (l5 : Int32) (d6 d7 : Option Value) (S : z_St) : z_R107 d (n + 1) 0 z [some (.ref 0), some (.int l1), some (.int l2), some (.int l3), some (.int l4), some (.int l5), d6, d7] [] S = z_R107 d n 7 z [some (.ref 0), some (.int l1), some (.int l2), some (.int l3), some (.int l4), some (.int l5), some (.int l3), some (.int l4)] [] S := by
  refine zs_run (L' := [some (.ref 0), some (.int l1), some (.int l2), some (.int l3), some (.int l4), some (.int l5), none, none]) rfl rfl ?_
  exact zs_iload_n rfl (zs_istore (L' := [some (.ref 0), some (.int l1), some (.int l2), some (.int l3), some (.int l4), some (.int l5), some (.int l3), none]) rfl rfl (zs_iload rfl (zs_istore (L' := [some (.ref 0), some (.int l1), some (.int l2), some (.int l3), some (.int l4), some (.int l5), some (.int l3), some (.int l4)]) rfl rfl (zs_nil rfl))))
set_option maxRecDepth 100000 in
theorem zq_107_7 (d n z : Nat) (l1 : Int32) (l2 : Int32) (l3 : Int32) (l4 : Int32) (l5 : Int32) (l6 : Int32) (l7 : Int32) (S : z_St) : z_R107 d (n + 1) 7 z [some (.ref 0), some (.int l1), some (.int l2), some (.int l3), some (.int l4), some (.int l5), some (.int l6), some (.int l7)] [] S = if (l4 + l5) ≤ l7 then (z_R107 d n 36 z [some (.ref 0), some (.int l1), some (.int l2), some (.int l3), some (.int l4), some (.int l5), some (.int l6), some (.int l7)] [] S) else (z_cli (z_ew d 108 [.ref 0, .int l1, .int l2, .int l3, .int l6, .int l7] S) (fun x2 S1 => z_R107 d n 7 z [some (.ref 0), some (.int l1), some (.int l2), some (.int l3), some (.int l4), some (.int l5), some (.int x2), some (.int (l7 + (nI 1)))] [] S1) (z_hnd [])) := by
  refine zs_run (L' := [some (.ref 0), some (.int l1), some (.int l2), some (.int l3), some (.int l4), some (.int l5), some (.int l6), some (.int l7)]) rfl rfl ?_
  exact zs_iload rfl (zs_iload rfl (zs_iload rfl (zs_iadd (zs_ic_ge rfl (zs_aload_n rfl (zs_iload_n rfl (zs_iload_n rfl (zs_iload_n rfl (zs_iload rfl (zs_iload rfl (zs_Vi rfl rfl (Or.inr ⟨Or.inl rfl, _, _, rfl, rfl⟩) (fun x2 S1 => zs_istore (L' := [some (.ref 0), some (.int l1), some (.int l2), some (.int l3), some (.int l4), some (.int l5), some (.int x2), some (.int l7)]) rfl rfl (zs_iinc (v := nI 1) (L' := [some (.ref 0), some (.int l1), some (.int l2), some (.int l3), some (.int l4), some (.int l5), some (.int x2), some (.int (l7 + (nI 1)))]) rfl rfl rfl rfl (zs_goto rfl))) (fun _ _ => rfl))))))))))))
set_option maxRecDepth 100000 in
theorem zq_107_36 (d n z : Nat) (l6 : Int32) (d0 d1 d2 d3 d4 d5 d7 : Option Value) (S : z_St) : z_R107 d (n + 1) 36 z [d0, d1, d2, d3, d4, d5, some (.int l6), d7] [] S = some (.inl (some (.int l6)), S) := by
  refine zs_run (L' := [none, none, none, none, none, none, some (.int l6), none]) rfl rfl ?_
  exact zs_iload rfl (zs_iret rfl)
/-- SlipRoom.readHour(IIIII)I -/
noncomputable def z_R108 (d : Nat) : Nat → z_K := z_run false (some .int) [] (z_ew d) z_b108
theorem ze_108 (d : Nat) (as : List Value) (S : z_St) (h : Nat.ble (z_sl as).length 11 = true) : z_ew (d + 1) 108 as S = z_R108 d z_fuel 0 0 (z_in 11 as) [] S := zs_ew h
set_option maxRecDepth 100000 in
theorem zq_108_0 (d n z : Nat) (l1 : Int32) (l2 : Int32) (l3 : Int32) (l4 : Int32) (l5 : Int32) (d6 d7 d8 d9 d10 : Option Value) (S : z_St) : z_R108 d (n + 1) 0 z [some (.ref 0), some (.int l1), some (.int l2), some (.int l3), some (.int l4), some (.int l5), d6, d7, d8, d9, d10] [] S = z_cli (z_ew d 103 [.int l1, .int l2] S) (fun x2 S1 => cond (decide ((S1.1 0 3) = -1)) none (cond (z_isO 3 (((S1.1 0 3)).toNatClampNeg)) (cond (Nat.beq (z_at (((S1.1 0 3)).toNatClampNeg + 1)) 1 && z_ix l2 (z_ln (((S1.1 0 3)).toNatClampNeg + 1))) (z_R108 d n 28 z [some (.ref 0), some (.int l1), some (.int l2), some (.int l3), some (.int l4), some (.int l5), some (.int x2), some (.int (S1.1 (((S1.1 0 3)).toNatClampNeg + 1) ((l2).toNatClampNeg))), some (.int l4), some (.int (nI 0)), some (.int (nI 0))] [] S1) none) none)) (z_hnd []) := by
  refine zs_run (L' := [some (.ref 0), some (.int l1), some (.int l2), some (.int l3), some (.int l4), some (.int l5), none, none, none, none, none]) rfl rfl ?_
  exact zs_iload_n rfl (zs_iload_n rfl (zs_Si rfl rfl (Or.inl (Or.inl rfl)) (fun x2 S1 => zs_istore (L' := [some (.ref 0), some (.int l1), some (.int l2), some (.int l3), some (.int l4), some (.int l5), some (.int x2), none, none, none, none]) rfl rfl (zs_aload_n rfl (zs_get1 (x := (S1.1 0 3)) rfl rfl (zs_get2c (b := (((S1.1 0 3)).toNatClampNeg + 1)) rfl (zs_iload_n rfl (zs_iac (v := (S1.1 (((S1.1 0 3)).toNatClampNeg + 1) ((l2).toNatClampNeg))) rfl rfl (zs_istore (L' := [some (.ref 0), some (.int l1), some (.int l2), some (.int l3), some (.int l4), some (.int l5), some (.int x2), some (.int (S1.1 (((S1.1 0 3)).toNatClampNeg + 1) ((l2).toNatClampNeg))), none, none, none]) rfl rfl (zs_iload rfl (zs_istore (L' := [some (.ref 0), some (.int l1), some (.int l2), some (.int l3), some (.int l4), some (.int l5), some (.int x2), some (.int (S1.1 (((S1.1 0 3)).toNatClampNeg + 1) ((l2).toNatClampNeg))), some (.int l4), none, none]) rfl rfl (zs_iconst (v := nI 0) rfl (zs_istore (L' := [some (.ref 0), some (.int l1), some (.int l2), some (.int l3), some (.int l4), some (.int l5), some (.int x2), some (.int (S1.1 (((S1.1 0 3)).toNatClampNeg + 1) ((l2).toNatClampNeg))), some (.int l4), some (.int (nI 0)), none]) rfl rfl (zs_iconst (v := nI 0) rfl (zs_istore (L' := [some (.ref 0), some (.int l1), some (.int l2), some (.int l3), some (.int l4), some (.int l5), some (.int x2), some (.int (S1.1 (((S1.1 0 3)).toNatClampNeg + 1) ((l2).toNatClampNeg))), some (.int l4), some (.int (nI 0)), some (.int (nI 0))]) rfl rfl (zs_nil rfl)))))))))))))) (fun _ _ => rfl)))
set_option maxRecDepth 100000 in
theorem zq_108_28 (d n z : Nat) (l1 : Int32) (l2 : Int32) (l3 : Int32) (l5 : Int32) (l6 : Int32) (l7 : Int32) (l8 : Int32) (l9 : Int32) (l10 : Int32) (d4 : Option Value) (S : z_St) : z_R108 d (n + 1) 28 z [some (.ref 0), some (.int l1), some (.int l2), some (.int l3), d4, some (.int l5), some (.int l6), some (.int l7), some (.int l8), some (.int l9), some (.int l10)] [] S = cond (decide ((S.1 0 3) = -1)) none (cond (z_isO 3 (((S.1 0 3)).toNatClampNeg)) (cond (Nat.beq (z_at (((S.1 0 3)).toNatClampNeg + 3)) 1 && z_ix l1 (z_ln (((S.1 0 3)).toNatClampNeg + 3))) (if (S.1 (((S.1 0 3)).toNatClampNeg + 3) ((l1).toNatClampNeg)) ≤ l10 then (z_R108 d n 96 z [some (.ref 0), some (.int l1), some (.int l2), some (.int l3), none, some (.int l5), some (.int l6), some (.int l7), some (.int l8), some (.int l9), some (.int l10)] [] S) else (if l7 < l8 then (z_R108 d n 96 z [some (.ref 0), some (.int l1), some (.int l2), some (.int l3), none, some (.int l5), some (.int l6), some (.int l7), some (.int l8), some (.int l9), some (.int l10)] [] S) else (if l9 = 0 then (z_clv (z_ew d 8 [.ref 24, .int l6, .int l8, .int l7, .int l5] S) (fun S1 => z_cli (z_ew d 109 [.ref 0, .int l1, .int l2, .int l8, .int ((l8 - l3) + (nI 1)), .int l5] S1) (fun x3 S2 => z_R108 d n 28 z [some (.ref 0), some (.int l1), some (.int l2), some (.int l3), none, some (.int l5), some (.int l6), some (.int l7), some (.int (l8 + (nI 1))), some (.int x3), some (.int (l10 + (nI 1)))] [] S2) (z_hnd [])) (z_hnd [])) else (z_R108 d n 96 z [some (.ref 0), some (.int l1), some (.int l2), some (.int l3), none, some (.int l5), some (.int l6), some (.int l7), some (.int l8), some (.int l9), some (.int l10)] [] S)))) none) none) := by
  refine zs_run (L' := [some (.ref 0), some (.int l1), some (.int l2), some (.int l3), none, some (.int l5), some (.int l6), some (.int l7), some (.int l8), some (.int l9), some (.int l10)]) rfl rfl ?_
  exact zs_iload rfl (zs_aload_n rfl (zs_get1 (x := (S.1 0 3)) rfl rfl (zs_get2c (b := (((S.1 0 3)).toNatClampNeg + 3)) rfl (zs_iload_n rfl (zs_iac (v := (S.1 (((S.1 0 3)).toNatClampNeg + 3) ((l1).toNatClampNeg))) rfl rfl (zs_ic_ge rfl (zs_iload rfl (zs_iload rfl (zs_ic_gt rfl (zs_iload rfl (zs_if_ne rfl (zs_aload_n rfl (zs_get3 rfl (zs_iload rfl (zs_iload rfl (zs_iload rfl (zs_iload rfl (zs_Vv rfl rfl (Or.inr ⟨Or.inl rfl, _, _, rfl, rfl⟩) (fun S1 => zs_aload_n rfl (zs_iload_n rfl (zs_iload_n rfl (zs_iload rfl (zs_iload rfl (zs_iload_n rfl (zs_isub (zs_iconst (v := nI 1) rfl (zs_iadd (zs_iload rfl (zs_Vi rfl rfl (Or.inr ⟨Or.inl rfl, _, _, rfl, rfl⟩) (fun x3 S2 => zs_istore (L' := [some (.ref 0), some (.int l1), some (.int l2), some (.int l3), none, some (.int l5), some (.int l6), some (.int l7), some (.int l8), some (.int x3), some (.int l10)]) rfl rfl (zs_iinc (v := nI 1) (L' := [some (.ref 0), some (.int l1), some (.int l2), some (.int l3), none, some (.int l5), some (.int l6), some (.int l7), some (.int (l8 + (nI 1))), some (.int x3), some (.int l10)]) rfl rfl rfl rfl (zs_iinc (v := nI 1) (L' := [some (.ref 0), some (.int l1), some (.int l2), some (.int l3), none, some (.int l5), some (.int l6), some (.int l7), some (.int (l8 + (nI 1))), some (.int x3), some (.int (l10 + (nI 1)))]) rfl rfl rfl rfl (zs_goto rfl)))) (fun _ _ => rfl)))))))))))) (fun _ _ => rfl)))))))))))))))))))
set_option maxRecDepth 100000 in
theorem zq_108_96 (d n z : Nat) (l8 : Int32) (d0 d1 d2 d3 d4 d5 d6 d7 d9 d10 : Option Value) (S : z_St) : z_R108 d (n + 1) 96 z [d0, d1, d2, d3, d4, d5, d6, d7, some (.int l8), d9, d10] [] S = some (.inl (some (.int l8)), S) := by
  refine zs_run (L' := [none, none, none, none, none, none, none, none, some (.int l8), none, none]) rfl rfl ?_
  exact zs_iload rfl (zs_iret rfl)
/-- SlipRoom.stopsBehind(IIIII)Z -/
noncomputable def z_R109 (d : Nat) : Nat → z_K := z_run false (some .boolean) [] (z_ew d) z_b109
theorem ze_109 (d : Nat) (as : List Value) (S : z_St) (h : Nat.ble (z_sl as).length 6 = true) : z_ew (d + 1) 109 as S = z_R109 d z_fuel 0 0 (z_in 6 as) [] S := zs_ew h
set_option maxRecDepth 100000 in
theorem zq_109_0 (d n z : Nat) (l1 : Int32) (l2 : Int32) (l3 : Int32) (l4 : Int32) (l5 : Int32) (S : z_St) : z_R109 d (n + 1) 0 z [some (.ref 0), some (.int l1), some (.int l2), some (.int l3), some (.int l4), some (.int l5)] [] S = cond (decide ((S.1 0 3) = -1)) none (cond (z_isO 3 (((S.1 0 3)).toNatClampNeg)) (cond (Nat.beq (z_at (((S.1 0 3)).toNatClampNeg + 7)) 1 && z_ix l1 (z_ln (((S.1 0 3)).toNatClampNeg + 7))) (cond (decide ((S.1 0 3) = -1)) none (cond (z_isO 3 (((S.1 0 3)).toNatClampNeg)) (cond (Nat.beq (z_at (((S.1 0 3)).toNatClampNeg + 8)) 1 && z_ix l1 (z_ln (((S.1 0 3)).toNatClampNeg + 8))) (if (S.1 (((S.1 0 3)).toNatClampNeg + 7) ((l1).toNatClampNeg)) < (S.1 (((S.1 0 3)).toNatClampNeg + 8) ((l1).toNatClampNeg)) then (z_R109 d n 23 z [some (.ref 0), some (.int l1), some (.int l2), some (.int l3), some (.int l4), some (.int l5)] [] S) else (some (.inl (some (.int (nI 0))), S))) none) none)) none) none) := by
  refine zs_run (L' := [some (.ref 0), some (.int l1), some (.int l2), some (.int l3), some (.int l4), some (.int l5)]) rfl rfl ?_
  exact zs_aload_n rfl (zs_get1 (x := (S.1 0 3)) rfl rfl (zs_get2c (b := (((S.1 0 3)).toNatClampNeg + 7)) rfl (zs_iload_n rfl (zs_iac (v := (S.1 (((S.1 0 3)).toNatClampNeg + 7) ((l1).toNatClampNeg))) rfl rfl (zs_aload_n rfl (zs_get1 (x := (S.1 0 3)) rfl rfl (zs_get2c (b := (((S.1 0 3)).toNatClampNeg + 8)) rfl (zs_iload_n rfl (zs_iac (v := (S.1 (((S.1 0 3)).toNatClampNeg + 8) ((l1).toNatClampNeg))) rfl rfl (zs_ic_lt rfl (zs_iconst (v := nI 0) rfl (zs_iret (by decide +kernel)))))))))))))
set_option maxRecDepth 100000 in
theorem zq_109_23 (d n z : Nat) (l1 : Int32) (l2 : Int32) (l3 : Int32) (l4 : Int32) (l5 : Int32) (S : z_St) : z_R109 d (n + 1) 23 z [some (.ref 0), some (.int l1), some (.int l2), some (.int l3), some (.int l4), some (.int l5)] [] S = cond (decide ((S.1 0 3) = -1)) none (cond (z_isO 3 (((S.1 0 3)).toNatClampNeg)) (cond (Nat.beq (z_at (((S.1 0 3)).toNatClampNeg + 1)) 1 && z_ix l2 (z_ln (((S.1 0 3)).toNatClampNeg + 1))) (cond (decide ((S.1 0 3) = -1)) none (cond (z_isO 3 (((S.1 0 3)).toNatClampNeg)) (z_cli (z_ew d 37 [.ref (((S.1 0 3)).toNatClampNeg), .int l2, .int l3] ((z_w1 (z_w1 S.1 53 0 l3) 53 1 (((z_w1 S.1 53 0 l3) (((S.1 0 3)).toNatClampNeg + 1) ((l2).toNatClampNeg)) - l3)), S.2)) (fun x2 S1 => cond (decide ((S1.1 0 3) = -1)) none (cond (z_isO 3 (((S1.1 0 3)).toNatClampNeg)) (cond (decide ((S1.1 0 3) = -1)) none (cond (z_isO 3 (((S1.1 0 3)).toNatClampNeg)) (cond (Nat.beq (z_at (((S1.1 0 3)).toNatClampNeg + 7)) 1 && z_ix l1 (z_ln (((S1.1 0 3)).toNatClampNeg + 7))) (cond (decide ((S1.1 0 3) = -1)) none (cond (z_isO 3 (((S1.1 0 3)).toNatClampNeg)) (cond (Nat.beq (z_at (((S1.1 0 3)).toNatClampNeg + 8)) 1 && z_ix l1 (z_ln (((S1.1 0 3)).toNatClampNeg + 8))) (z_cli (z_ew d 0 [.ref 52, .ref (((S1.1 0 3)).toNatClampNeg + 9), .int ((z_w1 (z_w1 (z_w1 (z_w1 (z_w1 S1.1 53 2 ((l3 - x2) + (nI 1))) 53 3 l4) 53 4 (l5 - l5 / (nI 24) * (nI 24))) 53 5 (l5 / (nI 24))) 53 6 l2) (((S1.1 0 3)).toNatClampNeg + 7) ((l1).toNatClampNeg)), .int ((z_w1 (z_w1 (z_w1 (z_w1 (z_w1 S1.1 53 2 ((l3 - x2) + (nI 1))) 53 3 l4) 53 4 (l5 - l5 / (nI 24) * (nI 24))) 53 5 (l5 / (nI 24))) 53 6 l2) (((S1.1 0 3)).toNatClampNeg + 8) ((l1).toNatClampNeg))] ((z_w1 (z_w1 (z_w1 (z_w1 (z_w1 S1.1 53 2 ((l3 - x2) + (nI 1))) 53 3 l4) 53 4 (l5 - l5 / (nI 24) * (nI 24))) 53 5 (l5 / (nI 24))) 53 6 l2), S1.2)) (fun x4 S3 => cond (z_rb (some .boolean) x4) (some (.inl (some (.int x4)), S3)) none) (z_hnd [])) none) none)) none) none)) none)) (z_hnd [])) none)) none) none) := by
  refine zs_run (L' := [some (.ref 0), some (.int l1), some (.int l2), some (.int l3), some (.int l4), some (.int l5)]) rfl rfl ?_
  exact zs_aload_n rfl (zs_get3 rfl (zs_get2 (b := 53) rfl rfl (zs_iconst (v := nI 0) rfl (zs_iload_n rfl (zs_x (zs_ias (S' := ((z_w1 S.1 53 0 l3), S.2)) rfl rfl rfl (zs_aload_n rfl (zs_get3 rfl (zs_get2 (b := 53) rfl rfl (zs_iconst (v := nI 1) rfl (zs_aload_n rfl (zs_get1 (x := (S.1 0 3)) rfl rfl (zs_get2c (b := (((S.1 0 3)).toNatClampNeg + 1)) rfl (zs_iload_n rfl (zs_iac (v := ((z_w1 S.1 53 0 l3) (((S.1 0 3)).toNatClampNeg + 1) ((l2).toNatClampNeg))) rfl rfl (zs_iload_n rfl (zs_isub (zs_x (zs_ias (S' := ((z_w1 (z_w1 S.1 53 0 l3) 53 1 (((z_w1 S.1 53 0 l3) (((S.1 0 3)).toNatClampNeg + 1) ((l2).toNatClampNeg)) - l3)), S.2)) rfl rfl rfl (zs_aload_n rfl (zs_get3 rfl (zs_get2 (b := 53) rfl rfl (zs_iconst (v := nI 2) rfl (zs_iload_n rfl (zs_aload_n rfl (zs_get1 (x := (S.1 0 3)) rfl rfl (zs_iload_n rfl (zs_iload_n rfl (zs_Vic rfl rfl (Or.inl rfl) (fun x2 S1 => zs_isub (zs_iconst (v := nI 1) rfl (zs_iadd (zs_x (zs_ias (S' := ((z_w1 S1.1 53 2 ((l3 - x2) + (nI 1))), S1.2)) rfl rfl rfl (zs_aload_n rfl (zs_get3 rfl (zs_get2 (b := 53) rfl rfl (zs_iconst (v := nI 3) rfl (zs_iload rfl (zs_x (zs_ias (S' := ((z_w1 (z_w1 S1.1 53 2 ((l3 - x2) + (nI 1))) 53 3 l4), S1.2)) rfl rfl rfl (zs_aload_n rfl (zs_get3 rfl (zs_get2 (b := 53) rfl rfl (zs_iconst (v := nI 4) rfl (zs_iload rfl (zs_bipush (v := nI 24) rfl (zs_iremc (nI_ne0 (by decide) (by decide)) (zs_x (zs_ias (S' := ((z_w1 (z_w1 (z_w1 S1.1 53 2 ((l3 - x2) + (nI 1))) 53 3 l4) 53 4 (l5 - l5 / (nI 24) * (nI 24))), S1.2)) rfl rfl rfl (zs_aload_n rfl (zs_get3 rfl (zs_get2 (b := 53) rfl rfl (zs_iconst (v := nI 5) rfl (zs_iload rfl (zs_bipush (v := nI 24) rfl (zs_idivc (nI_ne0 (by decide) (by decide)) (zs_x (zs_ias (S' := ((z_w1 (z_w1 (z_w1 (z_w1 S1.1 53 2 ((l3 - x2) + (nI 1))) 53 3 l4) 53 4 (l5 - l5 / (nI 24) * (nI 24))) 53 5 (l5 / (nI 24))), S1.2)) rfl rfl rfl (zs_aload_n rfl (zs_get3 rfl (zs_get2 (b := 53) rfl rfl (zs_bipush (v := nI 6) rfl (zs_iload_n rfl (zs_x (zs_ias (S' := ((z_w1 (z_w1 (z_w1 (z_w1 (z_w1 S1.1 53 2 ((l3 - x2) + (nI 1))) 53 3 l4) 53 4 (l5 - l5 / (nI 24) * (nI 24))) 53 5 (l5 / (nI 24))) 53 6 l2), S1.2)) rfl rfl rfl (zs_aload_n rfl (zs_get3 rfl (zs_aload_n rfl (zs_get1 (x := (S1.1 0 3)) rfl rfl (zs_get2c (b := (((S1.1 0 3)).toNatClampNeg + 9)) rfl (zs_aload_n rfl (zs_get1 (x := (S1.1 0 3)) rfl rfl (zs_get2c (b := (((S1.1 0 3)).toNatClampNeg + 7)) rfl (zs_iload_n rfl (zs_iac (v := ((z_w1 (z_w1 (z_w1 (z_w1 (z_w1 S1.1 53 2 ((l3 - x2) + (nI 1))) 53 3 l4) 53 4 (l5 - l5 / (nI 24) * (nI 24))) 53 5 (l5 / (nI 24))) 53 6 l2) (((S1.1 0 3)).toNatClampNeg + 7) ((l1).toNatClampNeg))) rfl rfl (zs_aload_n rfl (zs_get1 (x := (S1.1 0 3)) rfl rfl (zs_get2c (b := (((S1.1 0 3)).toNatClampNeg + 8)) rfl (zs_iload_n rfl (zs_iac (v := ((z_w1 (z_w1 (z_w1 (z_w1 (z_w1 S1.1 53 2 ((l3 - x2) + (nI 1))) 53 3 l4) 53 4 (l5 - l5 / (nI 24) * (nI 24))) 53 5 (l5 / (nI 24))) 53 6 l2) (((S1.1 0 3)).toNatClampNeg + 8) ((l1).toNatClampNeg))) rfl rfl (zs_Vi rfl rfl (Or.inr ⟨Or.inl rfl, _, _, rfl, rfl⟩) (fun x4 S3 => zs_iretc) (fun _ _ => rfl)))))))))))))))))) (z_ixn rfl rfl)))))))) (z_ixn rfl rfl)))))))))) (z_ixn rfl rfl)))))))))) (z_ixn rfl rfl)))))))) (z_ixn rfl rfl))))) (fun _ _ => rfl)))))))))))) (z_ixn rfl rfl)))))))))))))) (z_ixn rfl rfl))))))
