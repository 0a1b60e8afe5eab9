/-- SlipRoom$Law.holds([III)Z -/
noncomputable def z_R0 (d : Nat) : Nat → z_K := z_run false (some .boolean) [] (z_ew d) z_b0
theorem ze_0 (d : Nat) (as : List Value) (S : z_St) (h : Nat.ble (z_sl as).length 5 = true) : z_ew (d + 1) 0 as S = z_R0 d z_fuel 0 0 (z_in 5 as) [] S := zs_ew h
set_option maxRecDepth 100000 in
theorem zq_0_0 (d n z : Nat) (r1 : Nat) (l2 : Int32) (l3 : Int32) (d4 : Option Value) (S : z_St) : z_R0 d (n + 1) 0 z [some (.ref 52), some (.ref r1), some (.int l2), some (.int l3), d4] [] S = z_cli (z_ew d 187 [.int (nI 0), .int l2] ((z_w1 S.1 52 2 (nI 0)), S.2)) (fun x2 S1 => z_R0 d n 12 z [some (.ref 52), some (.ref r1), some (.int l2), some (.int l3), some (.int x2)] [] S1) (z_hnd []) := by
  refine zs_run (L' := [some (.ref 52), some (.ref r1), some (.int l2), some (.int l3), none]) rfl rfl ?_
  exact zs_aload_n rfl (zs_iconst (v := nI 0) rfl (zs_put (S' := ((z_w1 S.1 52 2 (nI 0)), S.2)) rfl rfl (zs_iconst (v := nI 0) rfl (zs_iload_n rfl (zs_Si rfl rfl (Or.inl (Or.inl rfl)) (fun x2 S1 => zs_istore (L' := [some (.ref 52), some (.ref r1), some (.int l2), some (.int l3), some (.int x2)]) rfl rfl (zs_nil rfl)) (fun _ _ => rfl))))))
set_option maxRecDepth 100000 in
theorem zq_0_12 (d n z : Nat) (r1 : Nat) (l3 : Int32) (l4 : Int32) (d2 : Option Value) (S : z_St) : z_R0 d (n + 1) 12 z [some (.ref 52), some (.ref r1), d2, some (.int l3), some (.int l4)] [] S = if l3 ≤ l4 then (z_R0 d n 39 z [some (.ref 52), some (.ref r1), none, some (.int l3), some (.int l4)] [] S) else (cond (Nat.beq r1 1100) (if (nI 17) ≤ l4 then (z_R0 d n 39 z [some (.ref 52), some (.ref r1), none, some (.int l3), some (.int l4)] [] S) else (cond (Nat.beq (z_at r1) 1 && z_ix l4 (z_ln r1)) (z_clv (z_ew d 1 [.ref 52, .int (S.1 r1 ((l4).toNatClampNeg))] S) (fun S1 => z_R0 d n 12 z [some (.ref 52), some (.ref r1), none, some (.int l3), some (.int (l4 + (nI 1)))] [] S1) (z_hnd [])) none)) (cond (Nat.blt 0 (z_at r1)) (if (nI (z_ln r1)) ≤ l4 then (z_R0 d n 39 z [some (.ref 52), some (.ref r1), none, some (.int l3), some (.int l4)] [] S) else (cond (Nat.beq (z_at r1) 1 && z_ix l4 (z_ln r1)) (z_clv (z_ew d 1 [.ref 52, .int (S.1 r1 ((l4).toNatClampNeg))] S) (fun S2 => z_R0 d n 12 z [some (.ref 52), some (.ref r1), none, some (.int l3), some (.int (l4 + (nI 1)))] [] S2) (z_hnd [])) none)) none)) := by
  refine zs_run (L' := [some (.ref 52), some (.ref r1), none, some (.int l3), some (.int l4)]) rfl rfl ?_
  exact zs_iload rfl (zs_iload_n rfl (zs_ic_ge rfl (zs_iload rfl (zs_aload_n rfl (zs_alc rfl (zs_ic_ge rfl (zs_aload_n rfl (zs_aload_n rfl (zs_iload rfl (zs_iac (v := (S.1 r1 ((l4).toNatClampNeg))) rfl rfl (zs_Vv rfl rfl (Or.inr ⟨Or.inl rfl, _, _, rfl, rfl⟩) (fun S1 => zs_iinc (v := nI 1) (L' := [some (.ref 52), some (.ref r1), none, some (.int l3), some (.int (l4 + (nI 1)))]) rfl rfl rfl rfl (zs_goto rfl)) (fun _ _ => rfl))))))) (zs_ic_ge rfl (zs_aload_n rfl (zs_aload_n rfl (zs_iload rfl (zs_iac (v := (S.1 r1 ((l4).toNatClampNeg))) rfl rfl (zs_Vv rfl rfl (Or.inr ⟨Or.inl rfl, _, _, rfl, rfl⟩) (fun S2 => zs_iinc (v := nI 1) (L' := [some (.ref 52), some (.ref r1), none, some (.int l3), some (.int (l4 + (nI 1)))]) rfl rfl rfl rfl (zs_goto rfl)) (fun _ _ => rfl))))))))))))
set_option maxRecDepth 100000 in
theorem zq_0_39 (d n z : Nat)  (d1 d2 d3 d4 : Option Value) (S : z_St) : z_R0 d (n + 1) 39 z [some (.ref 52), d1, d2, d3, d4] [] S = z_cli (z_ew d 4 [.ref 52] S) (fun x2 S1 => if x2 = 0 then (z_R0 d n 50 z [some (.ref 52), none, none, none, none] [] S1) else (z_R0 d n 51 z [some (.ref 52), none, none, none, none] [.int (nI 1)] S1)) (z_hnd []) := by
  refine zs_run (L' := [some (.ref 52), none, none, none, none]) rfl rfl ?_
  exact zs_aload_n rfl (zs_Vi rfl rfl (Or.inr ⟨Or.inl rfl, _, _, rfl, rfl⟩) (fun x2 S1 => zs_if_eq rfl (zs_iconst (v := nI 1) rfl (zs_goto rfl))) (fun _ _ => rfl))
set_option maxRecDepth 100000 in
theorem zq_0_50 (d n z : Nat)  (d0 d1 d2 d3 d4 : Option Value) (S : z_St) : z_R0 d (n + 1) 50 z [d0, d1, d2, d3, d4] [] S = z_R0 d n 51 z [none, none, none, none, none] [.int (nI 0)] S := by
  refine zs_run (L' := [none, none, none, none, none]) rfl rfl ?_
  exact zs_iconst (v := nI 0) rfl (zs_nil rfl)
set_option maxRecDepth 100000 in
theorem zq_0_51 (d n z : Nat) (t0 : Int32) (d0 d1 d2 d3 d4 : Option Value) (S : z_St) : z_R0 d (n + 1) 51 z [d0, d1, d2, d3, d4] [.int t0] S = cond (z_rb (some .boolean) t0) (some (.inl (some (.int t0)), S)) none := by
  refine zs_run (L' := [none, none, none, none, none]) rfl rfl ?_
  exact zs_iretc
/-- SlipRoom$Law.obey(I)V -/
noncomputable def z_R1 (d : Nat) : Nat → z_K := z_run false none [] (z_ew d) z_b1
theorem ze_1 (d : Nat) (as : List Value) (S : z_St) (h : Nat.ble (z_sl as).length 4 = true) : z_ew (d + 1) 1 as S = z_R1 d z_fuel 0 0 (z_in 4 as) [] S := zs_ew h
set_option maxRecDepth 100000 in
theorem zq_1_0 (d n z : Nat) (l1 : Int32) (d2 d3 : Option Value) (S : z_St) : z_R1 d (n + 1) 0 z [some (.ref 52), some (.int l1), d2, d3] [] S = if l1 = (-nI 33) then (z_cli (z_ew d 4 [.ref 52] S) (fun x2 S1 => if x2 = 0 then (z_R1 d n 19 z [some (.ref 52), some (.int l1), none, none] [.int (nI 1), .ref 52] S1) else (z_R1 d n 18 z [some (.ref 52), some (.int l1), none, none] [.ref 52] S1)) (z_hnd [])) else (z_R1 d n 25 z [some (.ref 52), some (.int l1), none, none] [] S) := by
  refine zs_run (L' := [some (.ref 52), some (.int l1), none, none]) rfl rfl ?_
  exact zs_iload_n rfl (zs_bipush (v := (-nI 33)) rfl (zs_ic_ne rfl (zs_aload_n rfl (zs_aload_n rfl (zs_Vi rfl rfl (Or.inr ⟨Or.inl rfl, _, _, rfl, rfl⟩) (fun x2 S1 => zs_if_ne rfl (zs_iconst (v := nI 1) rfl (zs_goto rfl))) (fun _ _ => rfl))))))
set_option maxRecDepth 100000 in
theorem zq_1_18 (d n z : Nat)  (d0 d1 d2 d3 : Option Value) (S : z_St) : z_R1 d (n + 1) 18 z [d0, d1, d2, d3] [.ref 52] S = z_R1 d n 19 z [none, none, none, none] [.int (nI 0), .ref 52] S := by
  refine zs_run (L' := [none, none, none, none]) rfl rfl ?_
  exact zs_iconst (v := nI 0) rfl (zs_nil rfl)
set_option maxRecDepth 100000 in
theorem zq_1_19 (d n z : Nat) (t0 : Int32) (d0 d1 d2 d3 : Option Value) (S : z_St) : z_R1 d (n + 1) 19 z [d0, d1, d2, d3] [.int t0, .ref 52] S = z_clv (z_ew d 3 [.ref 52, .int t0] S) (fun S1 => z_R1 d n 92 z [none, none, none, none] [] S1) (z_hnd []) := by
  refine zs_run (L' := [none, none, none, none]) rfl rfl ?_
  exact zs_Vv rfl rfl (Or.inr ⟨Or.inl rfl, _, _, rfl, rfl⟩) (fun S1 => zs_goto rfl) (fun _ _ => rfl)
set_option maxRecDepth 100000 in
theorem zq_1_25 (d n z : Nat) (l1 : Int32) (d2 d3 : Option Value) (S : z_St) : z_R1 d (n + 1) 25 z [some (.ref 52), some (.int l1), d2, d3] [] S = if 0 ≤ l1 then (z_R1 d n 53 z [some (.ref 52), some (.int l1), none, none] [] S) else (z_cli (z_ew d 4 [.ref 52] S) (fun x2 S1 => z_cli (z_ew d 4 [.ref 52] S1) (fun x4 S3 => z_cli (z_ew d 2 [.int (-l1), .int x4, .int x2] S3) (fun x6 S5 => z_clv (z_ew d 3 [.ref 52, .int x6] S5) (fun S7 => z_R1 d n 92 z [some (.ref 52), some (.int l1), some (.int x2), some (.int x4)] [] S7) (z_hnd [])) (z_hnd [])) (z_hnd [])) (z_hnd [])) := by
  refine zs_run (L' := [some (.ref 52), some (.int l1), none, none]) rfl rfl ?_
  exact zs_iload_n rfl (zs_if_ge rfl (zs_aload_n rfl (zs_Vi rfl rfl (Or.inr ⟨Or.inl rfl, _, _, rfl, rfl⟩) (fun x2 S1 => zs_istore_n (L' := [some (.ref 52), some (.int l1), some (.int x2), none]) rfl rfl (zs_aload_n rfl (zs_Vi rfl rfl (Or.inr ⟨Or.inl rfl, _, _, rfl, rfl⟩) (fun x4 S3 => zs_istore_n (L' := [some (.ref 52), some (.int l1), some (.int x2), some (.int x4)]) rfl rfl (zs_aload_n rfl (zs_iload_n rfl (zs_ineg (zs_iload_n rfl (zs_iload_n rfl (zs_Si rfl rfl (Or.inl (Or.inl rfl)) (fun x6 S5 => zs_Vv rfl rfl (Or.inr ⟨Or.inl rfl, _, _, rfl, rfl⟩) (fun S7 => zs_goto rfl) (fun _ _ => rfl)) (fun _ _ => rfl)))))))) (fun _ _ => rfl)))) (fun _ _ => rfl))))
set_option maxRecDepth 100000 in
theorem zq_1_53 (d n z : Nat) (l1 : Int32) (d2 d3 : Option Value) (S : z_St) : z_R1 d (n + 1) 53 z [some (.ref 52), some (.int l1), d2, d3] [] S = if (nI 10000) ≤ l1 then (z_R1 d n 68 z [some (.ref 52), some (.int l1), none, none] [] S) else (z_clv (z_ew d 3 [.ref 52, .int l1] S) (fun S1 => z_R1 d n 92 z [some (.ref 52), some (.int l1), none, none] [] S1) (z_hnd [])) := by
  refine zs_run (L' := [some (.ref 52), some (.int l1), none, none]) rfl rfl ?_
  exact zs_iload_n rfl (zs_sipush (v := nI 10000) rfl (zs_ic_ge rfl (zs_aload_n rfl (zs_iload_n rfl (zs_Vv rfl rfl (Or.inr ⟨Or.inl rfl, _, _, rfl, rfl⟩) (fun S1 => zs_goto rfl) (fun _ _ => rfl))))))
set_option maxRecDepth 100000 in
theorem zq_1_68 (d n z : Nat) (l1 : Int32) (d2 d3 : Option Value) (S : z_St) : z_R1 d (n + 1) 68 z [some (.ref 52), some (.int l1), d2, d3] [] S = if (nI 7) ≤ (l1 - (nI 10000)) then (z_R1 d n 92 z [some (.ref 52), some (.int l1), none, none] [] S) else (cond (z_ix (l1 - (nI 10000)) 7) (z_clv (z_ew d 3 [.ref 52, .int (S.1 53 (((l1 - (nI 10000))).toNatClampNeg))] S) (fun S1 => z_R1 d n 92 z [some (.ref 52), some (.int l1), none, none] [] S1) (z_hnd [])) none) := by
  refine zs_run (L' := [some (.ref 52), some (.int l1), none, none]) rfl rfl ?_
  exact zs_iload_n rfl (zs_sipush (v := nI 10000) rfl (zs_isub (zs_bipush (v := nI 7) rfl (zs_ic_ge rfl (zs_aload_n rfl (zs_aload_n rfl (zs_get2 (b := 53) rfl rfl (zs_iload_n rfl (zs_sipush (v := nI 10000) rfl (zs_isub (zs_ia (v := (S.1 53 (((l1 - (nI 10000))).toNatClampNeg))) rfl rfl rfl rfl (zs_Vv rfl rfl (Or.inr ⟨Or.inl rfl, _, _, rfl, rfl⟩) (fun S1 => zs_nil rfl) (fun _ _ => rfl)))))))))))))
set_option maxRecDepth 100000 in
theorem zq_1_92 (d n z : Nat)  (d0 d1 d2 d3 : Option Value) (S : z_St) : z_R1 d (n + 1) 92 z [d0, d1, d2, d3] [] S = some (.inl none, S) := by
  refine zs_run (L' := [none, none, none, none]) rfl rfl ?_
  exact zs_ret rfl
/-- SlipRoom$Law.apply(III)I -/
noncomputable def z_R2 (d : Nat) : Nat → z_K := z_run false (some .int) [] (z_ew d) z_b2
theorem ze_2 (d : Nat) (as : List Value) (S : z_St) (h : Nat.ble (z_sl as).length 3 = true) : z_ew (d + 1) 2 as S = z_R2 d z_fuel 0 0 (z_in 3 as) [] S := zs_ew h
set_option maxRecDepth 100000 in
theorem zq_2_0 (d n z : Nat) (l0 : Int32) (l1 : Int32) (l2 : Int32) (S : z_St) : z_R2 d (n + 1) 0 z [some (.int l0), some (.int l1), some (.int l2)] [] S = z_R2 d n (z_tg 1 (Op.lookupswitch.offset (#[(38, 81), (42, 125), (43, 117), (45, 121), (60, 95), (61, 106), (124, 67)] : Array (Int × Int)).toList 129 (Int32.toInt l0))) z [some (.int l0), some (.int l1), some (.int l2)] [] S := by
  refine zs_run (L' := [some (.int l0), some (.int l1), some (.int l2)]) rfl rfl ?_
  exact zs_iload_n rfl (zs_lsw rfl)
set_option maxRecDepth 100000 in
theorem zq_2_68 (d n z : Nat) (l1 : Int32) (l2 : Int32) (d0 : Option Value) (S : z_St) : z_R2 d (n + 1) 68 z [d0, some (.int l1), some (.int l2)] [] S = if l1 = 0 then (if l2 = 0 then (z_R2 d n 80 z [none, some (.int l1), some (.int l2)] [] S) else (z_R2 d n 76 z [none, some (.int l1), some (.int l2)] [] S)) else (z_R2 d n 76 z [none, some (.int l1), some (.int l2)] [] S) := by
  refine zs_run (L' := [none, some (.int l1), some (.int l2)]) rfl rfl ?_
  exact zs_iload_n rfl (zs_if_ne rfl (zs_iload_n rfl (zs_if_eq rfl (zs_nil rfl))))
set_option maxRecDepth 100000 in
theorem zq_2_76 (d n z : Nat)  (d0 d1 d2 : Option Value) (S : z_St) : z_R2 d (n + 1) 76 z [d0, d1, d2] [] S = z_R2 d n 81 z [none, none, none] [.int (nI 1)] S := by
  refine zs_run (L' := [none, none, none]) rfl rfl ?_
  exact zs_iconst (v := nI 1) rfl (zs_goto rfl)
set_option maxRecDepth 100000 in
theorem zq_2_80 (d n z : Nat)  (d0 d1 d2 : Option Value) (S : z_St) : z_R2 d (n + 1) 80 z [d0, d1, d2] [] S = z_R2 d n 81 z [none, none, none] [.int (nI 0)] S := by
  refine zs_run (L' := [none, none, none]) rfl rfl ?_
  exact zs_iconst (v := nI 0) rfl (zs_nil rfl)
set_option maxRecDepth 100000 in
theorem zq_2_81 (d n z : Nat) (t0 : Int32) (d0 d1 d2 : Option Value) (S : z_St) : z_R2 d (n + 1) 81 z [d0, d1, d2] [.int t0] S = some (.inl (some (.int t0)), S) := by
  refine zs_run (L' := [none, none, none]) rfl rfl ?_
  exact zs_iret rfl
set_option maxRecDepth 100000 in
theorem zq_2_82 (d n z : Nat) (l1 : Int32) (l2 : Int32) (d0 : Option Value) (S : z_St) : z_R2 d (n + 1) 82 z [d0, some (.int l1), some (.int l2)] [] S = if l1 = 0 then (z_R2 d n 94 z [none, some (.int l1), some (.int l2)] [] S) else (if l2 = 0 then (z_R2 d n 94 z [none, some (.int l1), some (.int l2)] [] S) else (z_R2 d n 95 z [none, some (.int l1), some (.int l2)] [.int (nI 1)] S)) := by
  refine zs_run (L' := [none, some (.int l1), some (.int l2)]) rfl rfl ?_
  exact zs_iload_n rfl (zs_if_eq rfl (zs_iload_n rfl (zs_if_eq rfl (zs_iconst (v := nI 1) rfl (zs_goto rfl)))))
set_option maxRecDepth 100000 in
theorem zq_2_94 (d n z : Nat)  (d0 d1 d2 : Option Value) (S : z_St) : z_R2 d (n + 1) 94 z [d0, d1, d2] [] S = z_R2 d n 95 z [none, none, none] [.int (nI 0)] S := by
  refine zs_run (L' := [none, none, none]) rfl rfl ?_
  exact zs_iconst (v := nI 0) rfl (zs_nil rfl)
set_option maxRecDepth 100000 in
theorem zq_2_95 (d n z : Nat) (t0 : Int32) (d0 d1 d2 : Option Value) (S : z_St) : z_R2 d (n + 1) 95 z [d0, d1, d2] [.int t0] S = some (.inl (some (.int t0)), S) := by
  refine zs_run (L' := [none, none, none]) rfl rfl ?_
  exact zs_iret rfl
set_option maxRecDepth 100000 in
theorem zq_2_96 (d n z : Nat) (l1 : Int32) (l2 : Int32) (d0 : Option Value) (S : z_St) : z_R2 d (n + 1) 96 z [d0, some (.int l1), some (.int l2)] [] S = if l2 ≤ l1 then (z_R2 d n 105 z [none, some (.int l1), some (.int l2)] [] S) else (z_R2 d n 106 z [none, some (.int l1), some (.int l2)] [.int (nI 1)] S) := by
  refine zs_run (L' := [none, some (.int l1), some (.int l2)]) rfl rfl ?_
  exact zs_iload_n rfl (zs_iload_n rfl (zs_ic_ge rfl (zs_iconst (v := nI 1) rfl (zs_goto rfl))))
set_option maxRecDepth 100000 in
theorem zq_2_105 (d n z : Nat)  (d0 d1 d2 : Option Value) (S : z_St) : z_R2 d (n + 1) 105 z [d0, d1, d2] [] S = z_R2 d n 106 z [none, none, none] [.int (nI 0)] S := by
  refine zs_run (L' := [none, none, none]) rfl rfl ?_
  exact zs_iconst (v := nI 0) rfl (zs_nil rfl)
set_option maxRecDepth 100000 in
theorem zq_2_106 (d n z : Nat) (t0 : Int32) (d0 d1 d2 : Option Value) (S : z_St) : z_R2 d (n + 1) 106 z [d0, d1, d2] [.int t0] S = some (.inl (some (.int t0)), S) := by
  refine zs_run (L' := [none, none, none]) rfl rfl ?_
  exact zs_iret rfl
set_option maxRecDepth 100000 in
theorem zq_2_107 (d n z : Nat) (l1 : Int32) (l2 : Int32) (d0 : Option Value) (S : z_St) : z_R2 d (n + 1) 107 z [d0, some (.int l1), some (.int l2)] [] S = if l1 = l2 then (z_R2 d n 117 z [none, some (.int l1), some (.int l2)] [.int (nI 1)] S) else (z_R2 d n 116 z [none, some (.int l1), some (.int l2)] [] S) := by
  refine zs_run (L' := [none, some (.int l1), some (.int l2)]) rfl rfl ?_
  exact zs_iload_n rfl (zs_iload_n rfl (zs_ic_ne rfl (zs_iconst (v := nI 1) rfl (zs_goto rfl))))
set_option maxRecDepth 100000 in
theorem zq_2_116 (d n z : Nat)  (d0 d1 d2 : Option Value) (S : z_St) : z_R2 d (n + 1) 116 z [d0, d1, d2] [] S = z_R2 d n 117 z [none, none, none] [.int (nI 0)] S := by
  refine zs_run (L' := [none, none, none]) rfl rfl ?_
  exact zs_iconst (v := nI 0) rfl (zs_nil rfl)
set_option maxRecDepth 100000 in
theorem zq_2_117 (d n z : Nat) (t0 : Int32) (d0 d1 d2 : Option Value) (S : z_St) : z_R2 d (n + 1) 117 z [d0, d1, d2] [.int t0] S = some (.inl (some (.int t0)), S) := by
  refine zs_run (L' := [none, none, none]) rfl rfl ?_
  exact zs_iret rfl
set_option maxRecDepth 100000 in
theorem zq_2_118 (d n z : Nat) (l1 : Int32) (l2 : Int32) (d0 : Option Value) (S : z_St) : z_R2 d (n + 1) 118 z [d0, some (.int l1), some (.int l2)] [] S = some (.inl (some (.int (l1 + l2))), S) := by
  refine zs_run (L' := [none, some (.int l1), some (.int l2)]) rfl rfl ?_
  exact zs_iload_n rfl (zs_iload_n rfl (zs_iadd (zs_iret rfl)))
set_option maxRecDepth 100000 in
theorem zq_2_122 (d n z : Nat) (l1 : Int32) (l2 : Int32) (d0 : Option Value) (S : z_St) : z_R2 d (n + 1) 122 z [d0, some (.int l1), some (.int l2)] [] S = some (.inl (some (.int (l1 - l2))), S) := by
  refine zs_run (L' := [none, some (.int l1), some (.int l2)]) rfl rfl ?_
  exact zs_iload_n rfl (zs_iload_n rfl (zs_isub (zs_iret rfl)))
set_option maxRecDepth 100000 in
theorem zq_2_126 (d n z : Nat) (l1 : Int32) (l2 : Int32) (d0 : Option Value) (S : z_St) : z_R2 d (n + 1) 126 z [d0, some (.int l1), some (.int l2)] [] S = some (.inl (some (.int (l1 * l2))), S) := by
  refine zs_run (L' := [none, some (.int l1), some (.int l2)]) rfl rfl ?_
  exact zs_iload_n rfl (zs_iload_n rfl (zs_imul (zs_iret rfl)))
set_option maxRecDepth 100000 in
theorem zq_2_130 (d n z : Nat) (l1 : Int32) (l2 : Int32) (d0 : Option Value) (S : z_St) : z_R2 d (n + 1) 130 z [d0, some (.int l1), some (.int l2)] [] S = if l2 = 0 then (z_R2 d n 141 z [none, some (.int l1), some (.int l2)] [.int (nI 0)] S) else (z_R2 d n 138 z [none, some (.int l1), some (.int l2)] [] S) := by
  refine zs_run (L' := [none, some (.int l1), some (.int l2)]) rfl rfl ?_
  exact zs_iload_n rfl (zs_if_ne rfl (zs_iconst (v := nI 0) rfl (zs_goto rfl)))
set_option maxRecDepth 100000 in
theorem zq_2_138 (d n z : Nat) (l1 : Int32) (l2 : Int32) (d0 : Option Value) (S : z_St) : z_R2 d (n + 1) 138 z [d0, some (.int l1), some (.int l2)] [] S = if l2 = 0 then none else (z_R2 d n 141 z [none, some (.int l1), some (.int l2)] [.int (l1 / l2)] S) := by
  refine zs_run (L' := [none, some (.int l1), some (.int l2)]) rfl rfl ?_
  exact zs_iload_n rfl (zs_iload_n rfl (zs_idiv (zs_nil rfl)))
set_option maxRecDepth 100000 in
theorem zq_2_141 (d n z : Nat) (t0 : Int32) (d0 d1 d2 : Option Value) (S : z_St) : z_R2 d (n + 1) 141 z [d0, d1, d2] [.int t0] S = some (.inl (some (.int t0)), S) := by
  refine zs_run (L' := [none, none, none]) rfl rfl ?_
  exact zs_iret rfl
/-- SlipRoom$Law.push(I)V -/
noncomputable def z_R3 (d : Nat) : Nat → z_K := z_run false none [] (z_ew d) z_b3
theorem ze_3 (d : Nat) (as : List Value) (S : z_St) (h : Nat.ble (z_sl as).length 2 = true) : z_ew (d + 1) 3 as S = z_R3 d z_fuel 0 0 (z_in 2 as) [] S := zs_ew h
set_option maxRecDepth 100000 in
theorem zq_3_0 (d n z : Nat) (l1 : Int32) (S : z_St) : z_R3 d (n + 1) 0 z [some (.ref 52), some (.int l1)] [] S = if (nI 64) ≤ (S.1 52 2) then (z_R3 d n 32 z [some (.ref 52), some (.int l1)] [] S) else (cond (z_ix (S.1 52 2) 64) (z_R3 d n 32 z [some (.ref 52), some (.int l1)] [] ((z_w1 (z_w1 S.1 54 (((S.1 52 2)).toNatClampNeg) l1) 52 2 ((S.1 52 2) + (nI 1))), S.2)) none) := by
  refine zs_run (L' := [some (.ref 52), some (.int l1)]) rfl rfl ?_
  exact zs_aload_n rfl (zs_get0 (x := (S.1 52 2)) rfl rfl (zs_aload_n rfl (zs_get2 (b := 54) rfl rfl (zs_al rfl rfl rfl rfl (zs_ic_ge rfl (zs_aload_n rfl (zs_get2 (b := 54) rfl rfl (zs_aload_n rfl (zs_get0 (x := (S.1 52 2)) rfl rfl (zs_iload_n rfl (zs_ias (S' := ((z_w1 S.1 54 (((S.1 52 2)).toNatClampNeg) l1), S.2)) rfl rfl rfl (zs_aload_n rfl (zs_dupr (zs_get0 (x := (S.1 52 2)) rfl rfl (zs_iconst (v := nI 1) rfl (zs_iadd (zs_put (S' := ((z_w1 (z_w1 S.1 54 (((S.1 52 2)).toNatClampNeg) l1) 52 2 ((S.1 52 2) + (nI 1))), S.2)) rfl rfl (zs_nil rfl))))))))))))))))))
set_option maxRecDepth 100000 in
theorem zq_3_32 (d n z : Nat)  (d0 d1 : Option Value) (S : z_St) : z_R3 d (n + 1) 32 z [d0, d1] [] S = some (.inl none, S) := by
  refine zs_run (L' := [none, none]) rfl rfl ?_
  exact zs_ret rfl
/-- SlipRoom$Law.pop()I -/
noncomputable def z_R4 (d : Nat) : Nat → z_K := z_run false (some .int) [] (z_ew d) z_b4
theorem ze_4 (d : Nat) (as : List Value) (S : z_St) (h : Nat.ble (z_sl as).length 1 = true) : z_ew (d + 1) 4 as S = z_R4 d z_fuel 0 0 (z_in 1 as) [] S := zs_ew h
set_option maxRecDepth 100000 in
theorem zq_4_0 (d n z : Nat)  (S : z_St) : z_R4 d (n + 1) 0 z [some (.ref 52)] [] S = if (nI 1) ≤ (S.1 52 2) then (z_R4 d n 10 z [some (.ref 52)] [] S) else (some (.inl (some (.int (nI 0))), S)) := by
  refine zs_run (L' := [some (.ref 52)]) rfl rfl ?_
  exact zs_aload_n rfl (zs_get0 (x := (S.1 52 2)) rfl rfl (zs_iconst (v := nI 1) rfl (zs_ic_ge rfl (zs_iconst (v := nI 0) rfl (zs_iret rfl)))))
set_option maxRecDepth 100000 in
theorem zq_4_10 (d n z : Nat)  (S : z_St) : z_R4 d (n + 1) 10 z [some (.ref 52)] [] S = cond (z_ix ((S.1 52 2) - (nI 1)) 64) (some (.inl (some (.int (S.1 54 ((((S.1 52 2) - (nI 1))).toNatClampNeg)))), ((z_w1 S.1 52 2 ((S.1 52 2) - (nI 1))), S.2))) none := by
  refine zs_run (L' := [some (.ref 52)]) rfl rfl ?_
  exact zs_aload_n rfl (zs_dupr (zs_get0 (x := (S.1 52 2)) rfl rfl (zs_iconst (v := nI 1) rfl (zs_isub (zs_put (S' := ((z_w1 S.1 52 2 ((S.1 52 2) - (nI 1))), S.2)) rfl rfl (zs_aload_n rfl (zs_get2 (b := 54) rfl rfl (zs_aload_n rfl (zs_get0 (x := ((S.1 52 2) - (nI 1))) rfl rfl (zs_ia (v := (S.1 54 ((((S.1 52 2) - (nI 1))).toNatClampNeg))) rfl rfl rfl rfl (zs_iret rfl)))))))))))
/-- SlipRoom$Plan.clear()V -/
noncomputable def z_R35 (d : Nat) : Nat → z_K := z_run false none [] (z_ew d) z_b35
theorem ze_35 (d : Nat) (as : List Value) (S : z_St) (h : Nat.ble (z_sl as).length 1 = true) : z_ew (d + 1) 35 as S = z_R35 d z_fuel 0 0 (z_in 1 as) [] S := zs_ew h
set_option maxRecDepth 100000 in
theorem zq_35_0 (d n z : Nat) (r0 : Nat) (S : z_St) : z_R35 d (n + 1) 0 z [some (.ref r0)] [] S = cond (z_isO 3 r0 && Nat.beq 0 0 && z_nb 0 (nI 0)) (cond (z_isO 3 r0 && Nat.beq 0 0 && z_nb 0 (nI 0)) (cond (z_isO 3 r0 && Nat.beq 0 0 && z_nb 0 (nI 0)) (some (.inl none, ((z_w1 (z_w1 (z_w1 S.1 r0 0 (nI 0)) r0 3 (nI 0)) r0 11 (nI 0)), S.2))) none) none) none := by
  refine zs_run (L' := [some (.ref r0)]) rfl rfl ?_
  exact zs_aload_n rfl (zs_iconst (v := nI 0) rfl (zs_putc (S' := ((z_w1 S.1 r0 0 (nI 0)), S.2)) rfl (zs_aload_n rfl (zs_iconst (v := nI 0) rfl (zs_putc (S' := ((z_w1 (z_w1 S.1 r0 0 (nI 0)) r0 3 (nI 0)), S.2)) rfl (zs_aload_n rfl (zs_iconst (v := nI 0) rfl (zs_putc (S' := ((z_w1 (z_w1 (z_w1 S.1 r0 0 (nI 0)) r0 3 (nI 0)) r0 11 (nI 0)), S.2)) rfl (zs_ret rfl)))))))))
/-- SlipRoom$Plan.putCode(I)V -/
noncomputable def z_R36 (d : Nat) : Nat → z_K := z_run false none [] (z_ew d) z_b36
theorem ze_36 (d : Nat) (as : List Value) (S : z_St) (h : Nat.ble (z_sl as).length 2 = true) : z_ew (d + 1) 36 as S = z_R36 d z_fuel 0 0 (z_in 2 as) [] S := zs_ew h
set_option maxRecDepth 100000 in
theorem zq_36_0 (d n z : Nat) (r0 : Nat) (l1 : Int32) (S : z_St) : z_R36 d (n + 1) 0 z [some (.ref r0), some (.int l1)] [] S = cond (z_isO 3 r0) (cond (z_isO 3 r0) (cond (Nat.beq (r0 + 9) 1100) (if (nI 17) ≤ (S.1 r0 11) then (z_R36 d n 32 z [some (.ref r0), some (.int l1)] [] S) else (cond (z_isO 3 r0) (cond (z_isO 3 r0) (cond (Nat.beq (z_at (r0 + 9)) 1 && z_ix (S.1 r0 11) (z_ln (r0 + 9))) (cond (z_isO 3 r0) (cond (z_isO 3 r0 && Nat.beq 0 0 && z_nb 0 (((z_w1 S.1 (r0 + 9) (((S.1 r0 11)).toNatClampNeg) l1) r0 11) + (nI 1))) (z_R36 d n 32 z [some (.ref r0), some (.int l1)] [] ((z_w1 (z_w1 S.1 (r0 + 9) (((S.1 r0 11)).toNatClampNeg) l1) r0 11 (((z_w1 S.1 (r0 + 9) (((S.1 r0 11)).toNatClampNeg) l1) r0 11) + (nI 1))), S.2)) none) none) none) none) none)) (cond (Nat.blt 0 (z_at (r0 + 9))) (if (nI (z_ln (r0 + 9))) ≤ (S.1 r0 11) then (z_R36 d n 32 z [some (.ref r0), some (.int l1)] [] S) else (cond (z_isO 3 r0) (cond (z_isO 3 r0) (cond (Nat.beq (z_at (r0 + 9)) 1 && z_ix (S.1 r0 11) (z_ln (r0 + 9))) (cond (z_isO 3 r0) (cond (z_isO 3 r0 && Nat.beq 0 0 && z_nb 0 (((z_w1 S.1 (r0 + 9) (((S.1 r0 11)).toNatClampNeg) l1) r0 11) + (nI 1))) (z_R36 d n 32 z [some (.ref r0), some (.int l1)] [] ((z_w1 (z_w1 S.1 (r0 + 9) (((S.1 r0 11)).toNatClampNeg) l1) r0 11 (((z_w1 S.1 (r0 + 9) (((S.1 r0 11)).toNatClampNeg) l1) r0 11) + (nI 1))), S.2)) none) none) none) none) none)) none)) none) none := by
  refine zs_run (L' := [some (.ref r0), some (.int l1)]) rfl rfl ?_
  exact zs_aload_n rfl (zs_get0c (x := (S.1 r0 11)) rfl (zs_aload_n rfl (zs_get2c (b := (r0 + 9)) rfl (zs_alc rfl (zs_ic_ge rfl (zs_aload_n rfl (zs_get2c (b := (r0 + 9)) rfl (zs_aload_n rfl (zs_get0c (x := (S.1 r0 11)) rfl (zs_iload_n rfl (zs_iasc (S' := ((z_w1 S.1 (r0 + 9) (((S.1 r0 11)).toNatClampNeg) l1), S.2)) rfl (zs_aload_n rfl (zs_dupr (zs_get0c (x := ((z_w1 S.1 (r0 + 9) (((S.1 r0 11)).toNatClampNeg) l1) r0 11)) rfl (zs_iconst (v := nI 1) rfl (zs_iadd (zs_putc (S' := ((z_w1 (z_w1 S.1 (r0 + 9) (((S.1 r0 11)).toNatClampNeg) l1) r0 11 (((z_w1 S.1 (r0 + 9) (((S.1 r0 11)).toNatClampNeg) l1) r0 11) + (nI 1))), S.2)) rfl (zs_nil rfl)))))))))))))) (zs_ic_ge rfl (zs_aload_n rfl (zs_get2c (b := (r0 + 9)) rfl (zs_aload_n rfl (zs_get0c (x := (S.1 r0 11)) rfl (zs_iload_n rfl (zs_iasc (S' := ((z_w1 S.1 (r0 + 9) (((S.1 r0 11)).toNatClampNeg) l1), S.2)) rfl (zs_aload_n rfl (zs_dupr (zs_get0c (x := ((z_w1 S.1 (r0 + 9) (((S.1 r0 11)).toNatClampNeg) l1) r0 11)) rfl (zs_iconst (v := nI 1) rfl (zs_iadd (zs_putc (S' := ((z_w1 (z_w1 S.1 (r0 + 9) (((S.1 r0 11)).toNatClampNeg) l1) r0 11 (((z_w1 S.1 (r0 + 9) (((S.1 r0 11)).toNatClampNeg) l1) r0 11) + (nI 1))), S.2)) rfl (zs_nil rfl))))))))))))))))))
set_option maxRecDepth 100000 in
theorem zq_36_32 (d n z : Nat)  (d0 d1 : Option Value) (S : z_St) : z_R36 d (n + 1) 32 z [d0, d1] [] S = some (.inl none, S) := by
  refine zs_run (L' := [none, none]) rfl rfl ?_
  exact zs_ret rfl
/-- SlipRoom$Plan.partBegin(II)I -/
noncomputable def z_R37 (d : Nat) : Nat → z_K := z_run false (some .int) [] (z_ew d) z_b37
theorem ze_37 (d : Nat) (as : List Value) (S : z_St) (h : Nat.ble (z_sl as).length 4 = true) : z_ew (d + 1) 37 as S = z_R37 d z_fuel 0 0 (z_in 4 as) [] S := zs_ew h
set_option maxRecDepth 100000 in
theorem zq_37_0 (d n z : Nat) (r0 : Nat) (l1 : Int32) (l2 : Int32) (d3 : Option Value) (S : z_St) : z_R37 d (n + 1) 0 z [some (.ref r0), some (.int l1), some (.int l2), d3] [] S = cond (z_isO 3 r0) (cond (Nat.beq (z_at (r0 + 2)) 1 && z_ix l1 (z_ln (r0 + 2))) (if (nI 1) ≤ (S.1 (r0 + 2) ((l1).toNatClampNeg)) then (z_R37 d n 16 z [some (.ref r0), some (.int l1), some (.int l2), some (.int (S.1 (r0 + 2) ((l1).toNatClampNeg)))] [] S) else (z_R37 d n 23 z [some (.ref r0), some (.int l1), some (.int l2), some (.int (S.1 (r0 + 2) ((l1).toNatClampNeg)))] [.int (nI 1)] S)) none) none := by
  refine zs_run (L' := [some (.ref r0), some (.int l1), some (.int l2), none]) rfl rfl ?_
  exact zs_aload_n rfl (zs_get2c (b := (r0 + 2)) rfl (zs_iload_n rfl (zs_iac (v := (S.1 (r0 + 2) ((l1).toNatClampNeg))) rfl rfl (zs_istore_n (L' := [some (.ref r0), some (.int l1), some (.int l2), some (.int (S.1 (r0 + 2) ((l1).toNatClampNeg)))]) rfl rfl (zs_iload_n rfl (zs_iconst (v := nI 1) rfl (zs_ic_ge rfl (zs_iconst (v := nI 1) rfl (zs_goto rfl)))))))))
set_option maxRecDepth 100000 in
theorem zq_37_16 (d n z : Nat) (l2 : Int32) (l3 : Int32) (d0 d1 : Option Value) (S : z_St) : z_R37 d (n + 1) 16 z [d0, d1, some (.int l2), some (.int l3)] [] S = if l3 = 0 then none else (z_R37 d n 23 z [none, none, some (.int l2), some (.int l3)] [.int (l2 - ((l2 - (nI 1)) - (l2 - (nI 1)) / l3 * l3))] S) := by
  refine zs_run (L' := [none, none, some (.int l2), some (.int l3)]) rfl rfl ?_
  exact zs_iload_n rfl (zs_iload_n rfl (zs_iconst (v := nI 1) rfl (zs_isub (zs_iload_n rfl (zs_irem (zs_isub (zs_nil rfl)))))))
set_option maxRecDepth 100000 in
theorem zq_37_23 (d n z : Nat) (t0 : Int32) (d0 d1 d2 d3 : Option Value) (S : z_St) : z_R37 d (n + 1) 23 z [d0, d1, d2, d3] [.int t0] S = some (.inl (some (.int t0)), S) := by
  refine zs_run (L' := [none, none, none, none]) rfl rfl ?_
  exact zs_iret rfl
/-- SlipRoom$Settling.weigh([III)V -/
noncomputable def z_R38 (d : Nat) : Nat → z_K := z_run false none [] (z_ew d) z_b38
theorem ze_38 (d : Nat) (as : List Value) (S : z_St) (h : Nat.ble (z_sl as).length 5 = true) : z_ew (d + 1) 38 as S = z_R38 d z_fuel 0 0 (z_in 5 as) [] S := zs_ew h
set_option maxRecDepth 100000 in
theorem zq_38_0 (d n z : Nat) (l2 : Int32) (l3 : Int32) (d4 : Option Value) (S : z_St) : z_R38 d (n + 1) 0 z [some (.ref 67), some (.ref 36), some (.int l2), some (.int l3), d4] [] S = z_R38 d n 3 z [some (.ref 67), some (.ref 36), some (.int l2), some (.int l3), some (.int (nI 0))] [] S := by
  refine zs_run (L' := [some (.ref 67), some (.ref 36), some (.int l2), some (.int l3), none]) rfl rfl ?_
  exact zs_iconst (v := nI 0) rfl (zs_istore (L' := [some (.ref 67), some (.ref 36), some (.int l2), some (.int l3), some (.int (nI 0))]) rfl rfl (zs_nil rfl))
set_option maxRecDepth 100000 in
theorem zq_38_3 (d n z : Nat) (l2 : Int32) (l3 : Int32) (l4 : Int32) (S : z_St) : z_R38 d (n + 1) 3 z [some (.ref 67), some (.ref 36), some (.int l2), some (.int l3), some (.int l4)] [] S = if l3 < l4 then (z_R38 d n 39 z [some (.ref 67), some (.ref 36), some (.int l2), some (.int l3), some (.int l4)] [] S) else (if (nI 64) ≤ l4 then (z_R38 d n 39 z [some (.ref 67), some (.ref 36), some (.int l2), some (.int l3), some (.int l4)] [] S) else (if (l4 &&& l3) = l4 then (z_clv (z_ew d 39 [.ref 67, .ref 36, .int l2, .int l4] S) (fun S1 => z_R38 d n 33 z [some (.ref 67), some (.ref 36), some (.int l2), some (.int l3), some (.int l4)] [] S1) (z_hnd [])) else (z_R38 d n 33 z [some (.ref 67), some (.ref 36), some (.int l2), some (.int l3), some (.int l4)] [] S))) := by
  refine zs_run (L' := [some (.ref 67), some (.ref 36), some (.int l2), some (.int l3), some (.int l4)]) rfl rfl ?_
  exact zs_iload rfl (zs_iload_n rfl (zs_ic_gt rfl (zs_iload rfl (zs_bipush (v := nI 64) rfl (zs_ic_ge rfl (zs_iload rfl (zs_iload_n rfl (zs_iand (zs_iload rfl (zs_ic_ne rfl (zs_aload_n rfl (zs_aload_n rfl (zs_iload_n rfl (zs_iload rfl (zs_Vv rfl rfl (Or.inr ⟨Or.inl rfl, _, _, rfl, rfl⟩) (fun S1 => zs_nil rfl) (fun _ _ => rfl))))))))))))))))
set_option maxRecDepth 100000 in
theorem zq_38_33 (d n z : Nat) (l2 : Int32) (l3 : Int32) (l4 : Int32) (S : z_St) : z_R38 d (n + 1) 33 z [some (.ref 67), some (.ref 36), some (.int l2), some (.int l3), some (.int l4)] [] S = z_R38 d n 3 z [some (.ref 67), some (.ref 36), some (.int l2), some (.int l3), some (.int (l4 + (nI 1)))] [] S := by
  refine zs_run (L' := [some (.ref 67), some (.ref 36), some (.int l2), some (.int l3), some (.int l4)]) rfl rfl ?_
  exact zs_iinc (v := nI 1) (L' := [some (.ref 67), some (.ref 36), some (.int l2), some (.int l3), some (.int (l4 + (nI 1)))]) rfl rfl rfl rfl (zs_goto rfl)
set_option maxRecDepth 100000 in
theorem zq_38_39 (d n z : Nat)  (d0 d1 d2 d3 d4 : Option Value) (S : z_St) : z_R38 d (n + 1) 39 z [d0, d1, d2, d3, d4] [] S = some (.inl none, S) := by
  refine zs_run (L' := [none, none, none, none, none]) rfl rfl ?_
  exact zs_ret rfl
/-- SlipRoom$Settling.weighSet([III)V -/
noncomputable def z_R39 (d : Nat) : Nat → z_K := z_run false none [] (z_ew d) z_b39
theorem ze_39 (d : Nat) (as : List Value) (S : z_St) (h : Nat.ble (z_sl as).length 6 = true) : z_ew (d + 1) 39 as S = z_R39 d z_fuel 0 0 (z_in 6 as) [] S := zs_ew h
set_option maxRecDepth 100000 in
theorem zq_39_0 (d n z : Nat) (l2 : Int32) (l3 : Int32) (d4 d5 : Option Value) (S : z_St) : z_R39 d (n + 1) 0 z [some (.ref 67), some (.ref 36), some (.int l2), some (.int l3), d4, d5] [] S = cond (z_ix l3 64) (z_cli (z_ew d 185 [.int l3] ((z_w1 S.1 69 ((l3).toNatClampNeg) (-nI 1)), S.2)) (fun x2 S1 => if (nI 1) < x2 then (z_R39 d n 23 z [some (.ref 67), some (.ref 36), some (.int l2), some (.int l3), none, none] [] S1) else (cond (z_ix l3 64) (some (.inl none, ((z_w1 S1.1 68 ((l3).toNatClampNeg) (nI 0)), S1.2))) none)) (z_hnd [])) none := by
  refine zs_run (L' := [some (.ref 67), some (.ref 36), some (.int l2), some (.int l3), none, none]) rfl rfl ?_
  exact zs_aload_n rfl (zs_get2 (b := 69) rfl rfl (zs_iload_n rfl (zs_iconst (v := (-nI 1)) rfl (zs_ias (S' := ((z_w1 S.1 69 ((l3).toNatClampNeg) (-nI 1)), S.2)) rfl rfl rfl (zs_iload_n rfl (zs_Si rfl rfl (Or.inl (Or.inl rfl)) (fun x2 S1 => zs_iconst (v := nI 1) rfl (zs_ic_gt rfl (zs_aload_n rfl (zs_get2 (b := 68) rfl rfl (zs_iload_n rfl (zs_iconst (v := nI 0) rfl (zs_ias (S' := ((z_w1 S1.1 68 ((l3).toNatClampNeg) (nI 0)), S1.2)) rfl rfl rfl (zs_ret rfl)))))))) (fun _ _ => rfl)))))))
set_option maxRecDepth 100000 in
theorem zq_39_23 (d n z : Nat) (l2 : Int32) (l3 : Int32) (d4 d5 : Option Value) (S : z_St) : z_R39 d (n + 1) 23 z [some (.ref 67), some (.ref 36), some (.int l2), some (.int l3), d4, d5] [] S = cond (z_ix l3 64) (z_R39 d n 33 z [some (.ref 67), some (.ref 36), some (.int l2), some (.int l3), some (.int (nI 0)), none] [] ((z_w1 S.1 68 ((l3).toNatClampNeg) (-nI 1)), S.2)) none := by
  refine zs_run (L' := [some (.ref 67), some (.ref 36), some (.int l2), some (.int l3), none, none]) rfl rfl ?_
  exact zs_aload_n rfl (zs_get2 (b := 68) rfl rfl (zs_iload_n rfl (zs_iconst (v := (-nI 1)) rfl (zs_ias (S' := ((z_w1 S.1 68 ((l3).toNatClampNeg) (-nI 1)), S.2)) rfl rfl rfl (zs_iconst (v := nI 0) rfl (zs_istore (L' := [some (.ref 67), some (.ref 36), some (.int l2), some (.int l3), some (.int (nI 0)), none]) rfl rfl (zs_nil rfl)))))))
set_option maxRecDepth 100000 in
theorem zq_39_33 (d n z : Nat) (l2 : Int32) (l3 : Int32) (l4 : Int32) (d5 : Option Value) (S : z_St) : z_R39 d (n + 1) 33 z [some (.ref 67), some (.ref 36), some (.int l2), some (.int l3), some (.int l4), d5] [] S = if l2 ≤ l4 then (z_R39 d n 98 z [some (.ref 67), some (.ref 36), some (.int l2), some (.int l3), some (.int l4), none] [] S) else (z_cli (z_ew d 40 [.ref 67, .ref 36, .int l4, .int l3] S) (fun x2 S1 => if x2 = (-nI 1) then (z_R39 d n 92 z [some (.ref 67), some (.ref 36), some (.int l2), some (.int l3), some (.int l4), some (.int x2)] [] S1) else (cond (z_ix l3 64) (if (S1.1 68 ((l3).toNatClampNeg)) = (-nI 1) then (z_R39 d n 76 z [some (.ref 67), some (.ref 36), some (.int l2), some (.int l3), some (.int l4), some (.int x2)] [] S1) else (cond (z_ix l3 64) (if (S1.1 68 ((l3).toNatClampNeg)) ≤ x2 then (z_R39 d n 92 z [some (.ref 67), some (.ref 36), some (.int l2), some (.int l3), some (.int l4), some (.int x2)] [] S1) else (z_R39 d n 76 z [some (.ref 67), some (.ref 36), some (.int l2), some (.int l3), some (.int l4), some (.int x2)] [] S1)) none)) none)) (z_hnd [])) := by
  refine zs_run (L' := [some (.ref 67), some (.ref 36), some (.int l2), some (.int l3), some (.int l4), none]) rfl rfl ?_
  exact zs_iload rfl (zs_iload_n rfl (zs_ic_ge rfl (zs_aload_n rfl (zs_aload_n rfl (zs_iload rfl (zs_iload_n rfl (zs_Vi rfl rfl (Or.inr ⟨Or.inl rfl, _, _, rfl, rfl⟩) (fun x2 S1 => zs_istore (L' := [some (.ref 67), some (.ref 36), some (.int l2), some (.int l3), some (.int l4), some (.int x2)]) rfl rfl (zs_iload rfl (zs_iconst (v := (-nI 1)) rfl (zs_ic_eq rfl (zs_aload_n rfl (zs_get2 (b := 68) rfl rfl (zs_iload_n rfl (zs_ia (v := (S1.1 68 ((l3).toNatClampNeg))) rfl rfl rfl rfl (zs_iconst (v := (-nI 1)) rfl (zs_ic_eq rfl (zs_iload rfl (zs_aload_n rfl (zs_get2 (b := 68) rfl rfl (zs_iload_n rfl (zs_ia (v := (S1.1 68 ((l3).toNatClampNeg))) rfl rfl rfl rfl (zs_ic_ge rfl (zs_nil rfl))))))))))))))))) (fun _ _ => rfl))))))))
set_option maxRecDepth 100000 in
theorem zq_39_76 (d n z : Nat) (l2 : Int32) (l3 : Int32) (l4 : Int32) (l5 : Int32) (S : z_St) : z_R39 d (n + 1) 76 z [some (.ref 67), some (.ref 36), some (.int l2), some (.int l3), some (.int l4), some (.int l5)] [] S = cond (z_ix l3 64) (cond (z_ix l3 64) (z_R39 d n 92 z [some (.ref 67), some (.ref 36), some (.int l2), some (.int l3), some (.int l4), some (.int l5)] [] ((z_w1 (z_w1 S.1 68 ((l3).toNatClampNeg) l5) 69 ((l3).toNatClampNeg) l4), S.2)) none) none := by
  refine zs_run (L' := [some (.ref 67), some (.ref 36), some (.int l2), some (.int l3), some (.int l4), some (.int l5)]) rfl rfl ?_
  exact zs_aload_n rfl (zs_get2 (b := 68) rfl rfl (zs_iload_n rfl (zs_iload rfl (zs_ias (S' := ((z_w1 S.1 68 ((l3).toNatClampNeg) l5), S.2)) rfl rfl rfl (zs_aload_n rfl (zs_get2 (b := 69) rfl rfl (zs_iload_n rfl (zs_iload rfl (zs_ias (S' := ((z_w1 (z_w1 S.1 68 ((l3).toNatClampNeg) l5) 69 ((l3).toNatClampNeg) l4), S.2)) rfl rfl rfl (zs_nil rfl))))))))))
set_option maxRecDepth 100000 in
theorem zq_39_92 (d n z : Nat) (l2 : Int32) (l3 : Int32) (l4 : Int32) (d5 : Option Value) (S : z_St) : z_R39 d (n + 1) 92 z [some (.ref 67), some (.ref 36), some (.int l2), some (.int l3), some (.int l4), d5] [] S = z_R39 d n 33 z [some (.ref 67), some (.ref 36), some (.int l2), some (.int l3), some (.int (l4 + (nI 1))), none] [] S := by
  refine zs_run (L' := [some (.ref 67), some (.ref 36), some (.int l2), some (.int l3), some (.int l4), none]) rfl rfl ?_
  exact zs_iinc (v := nI 1) (L' := [some (.ref 67), some (.ref 36), some (.int l2), some (.int l3), some (.int (l4 + (nI 1))), none]) rfl rfl rfl rfl (zs_goto rfl)
set_option maxRecDepth 100000 in
theorem zq_39_98 (d n z : Nat)  (d0 d1 d2 d3 d4 d5 : Option Value) (S : z_St) : z_R39 d (n + 1) 98 z [d0, d1, d2, d3, d4, d5] [] S = some (.inl none, S) := by
  refine zs_run (L' := [none, none, none, none, none, none]) rfl rfl ?_
  exact zs_ret rfl
/-- SlipRoom$Settling.looksFrom([III)I -/
noncomputable def z_R40 (d : Nat) : Nat → z_K := z_run false (some .int) [] (z_ew d) z_b40
theorem ze_40 (d : Nat) (as : List Value) (S : z_St) (h : Nat.ble (z_sl as).length 7 = true) : z_ew (d + 1) 40 as S = z_R40 d z_fuel 0 0 (z_in 7 as) [] S := zs_ew h
set_option maxRecDepth 100000 in
theorem zq_40_0 (d n z : Nat) (l2 : Int32) (l3 : Int32) (d4 d5 d6 : Option Value) (S : z_St) : z_R40 d (n + 1) 0 z [some (.ref 67), some (.ref 36), some (.int l2), some (.int l3), d4, d5, d6] [] S = z_R40 d n 6 z [some (.ref 67), some (.ref 36), some (.int l2), some (.int l3), some (.int (nI 0)), some (.int (nI 0)), none] [] S := by
  refine zs_run (L' := [some (.ref 67), some (.ref 36), some (.int l2), some (.int l3), none, none, none]) rfl rfl ?_
  exact zs_iconst (v := nI 0) rfl (zs_istore (L' := [some (.ref 67), some (.ref 36), some (.int l2), some (.int l3), some (.int (nI 0)), none, none]) rfl rfl (zs_iconst (v := nI 0) rfl (zs_istore (L' := [some (.ref 67), some (.ref 36), some (.int l2), some (.int l3), some (.int (nI 0)), some (.int (nI 0)), none]) rfl rfl (zs_nil rfl))))
set_option maxRecDepth 100000 in
theorem zq_40_6 (d n z : Nat) (l2 : Int32) (l3 : Int32) (l4 : Int32) (l5 : Int32) (d6 : Option Value) (S : z_St) : z_R40 d (n + 1) 6 z [some (.ref 67), some (.ref 36), some (.int l2), some (.int l3), some (.int l4), some (.int l5), d6] [] S = if (nI 6) ≤ l5 then (z_R40 d n 79 z [some (.ref 67), some (.ref 36), some (.int l2), some (.int l3), some (.int l4), some (.int l5), none] [] S) else (if ((l3 >>> (l5 &&& 31)) &&& (nI 1)) = (nI 1) then (cond (z_ix ((l5 * (nI 10)) + l2) 60) (z_cli (z_ew d 41 [.ref 36, .int l2, .int l3, .int (S.1 36 ((((l5 * (nI 10)) + l2)).toNatClampNeg))] S) (fun x2 S1 => if x2 = l3 then (z_R40 d n 57 z [some (.ref 67), some (.ref 36), some (.int l2), some (.int l3), some (.int l4), some (.int l5), some (.int x2)] [] S1) else (cond (z_ix x2 64) (if (S1.1 68 ((x2).toNatClampNeg)) = (-nI 1) then (z_R40 d n 57 z [some (.ref 67), some (.ref 36), some (.int l2), some (.int l3), some (.int l4), some (.int l5), some (.int x2)] [] S1) else (z_R40 d n 59 z [some (.ref 67), some (.ref 36), some (.int l2), some (.int l3), some (.int l4), some (.int l5), some (.int x2)] [] S1)) none)) (z_hnd [])) none) else (z_R40 d n 73 z [some (.ref 67), some (.ref 36), some (.int l2), some (.int l3), some (.int l4), some (.int l5), none] [] S)) := by
  refine zs_run (L' := [some (.ref 67), some (.ref 36), some (.int l2), some (.int l3), some (.int l4), some (.int l5), none]) rfl rfl ?_
  exact zs_iload rfl (zs_bipush (v := nI 6) rfl (zs_ic_ge rfl (zs_iload_n rfl (zs_iload rfl (zs_ishr (zs_iconst (v := nI 1) rfl (zs_iand (zs_iconst (v := nI 1) rfl (zs_ic_ne rfl (zs_aload_n rfl (zs_iload_n rfl (zs_iload_n rfl (zs_aload_n rfl (zs_iload rfl (zs_bipush (v := nI 10) rfl (zs_imul (zs_iload_n rfl (zs_iadd (zs_ia (v := (S.1 36 ((((l5 * (nI 10)) + l2)).toNatClampNeg))) rfl rfl rfl rfl (zs_Si rfl rfl (Or.inl (Or.inl rfl)) (fun x2 S1 => zs_istore (L' := [some (.ref 67), some (.ref 36), some (.int l2), some (.int l3), some (.int l4), some (.int l5), some (.int x2)]) rfl rfl (zs_iload rfl (zs_iload_n rfl (zs_ic_eq rfl (zs_aload_n rfl (zs_get2 (b := 68) rfl rfl (zs_iload rfl (zs_ia (v := (S1.1 68 ((x2).toNatClampNeg))) rfl rfl rfl rfl (zs_iconst (v := (-nI 1)) rfl (zs_ic_ne rfl (zs_nil rfl))))))))))) (fun _ _ => rfl)))))))))))))))))))))
set_option maxRecDepth 100000 in
theorem zq_40_57 (d n z : Nat)  (d0 d1 d2 d3 d4 d5 d6 : Option Value) (S : z_St) : z_R40 d (n + 1) 57 z [d0, d1, d2, d3, d4, d5, d6] [] S = some (.inl (some (.int (-nI 1))), S) := by
  refine zs_run (L' := [none, none, none, none, none, none, none]) rfl rfl ?_
  exact zs_iconst (v := (-nI 1)) rfl (zs_iret rfl)
set_option maxRecDepth 100000 in
theorem zq_40_59 (d n z : Nat) (l2 : Int32) (l3 : Int32) (l4 : Int32) (l5 : Int32) (l6 : Int32) (S : z_St) : z_R40 d (n + 1) 59 z [some (.ref 67), some (.ref 36), some (.int l2), some (.int l3), some (.int l4), some (.int l5), some (.int l6)] [] S = cond (z_ix l6 64) (z_cli (z_ew d 187 [.int l4, .int (S.1 68 ((l6).toNatClampNeg))] S) (fun x2 S1 => z_R40 d n 73 z [some (.ref 67), some (.ref 36), some (.int l2), some (.int l3), some (.int x2), some (.int l5), some (.int l6)] [] S1) (z_hnd [])) none := by
  refine zs_run (L' := [some (.ref 67), some (.ref 36), some (.int l2), some (.int l3), some (.int l4), some (.int l5), some (.int l6)]) rfl rfl ?_
  exact zs_iload rfl (zs_aload_n rfl (zs_get2 (b := 68) rfl rfl (zs_iload rfl (zs_ia (v := (S.1 68 ((l6).toNatClampNeg))) rfl rfl rfl rfl (zs_Si rfl rfl (Or.inl (Or.inl rfl)) (fun x2 S1 => zs_istore (L' := [some (.ref 67), some (.ref 36), some (.int l2), some (.int l3), some (.int x2), some (.int l5), some (.int l6)]) rfl rfl (zs_nil rfl)) (fun _ _ => rfl))))))
set_option maxRecDepth 100000 in
theorem zq_40_73 (d n z : Nat) (l2 : Int32) (l3 : Int32) (l4 : Int32) (l5 : Int32) (d6 : Option Value) (S : z_St) : z_R40 d (n + 1) 73 z [some (.ref 67), some (.ref 36), some (.int l2), some (.int l3), some (.int l4), some (.int l5), d6] [] S = z_R40 d n 6 z [some (.ref 67), some (.ref 36), some (.int l2), some (.int l3), some (.int l4), some (.int (l5 + (nI 1))), none] [] S := by
  refine zs_run (L' := [some (.ref 67), some (.ref 36), some (.int l2), some (.int l3), some (.int l4), some (.int l5), none]) rfl rfl ?_
  exact zs_iinc (v := nI 1) (L' := [some (.ref 67), some (.ref 36), some (.int l2), some (.int l3), some (.int l4), some (.int (l5 + (nI 1))), none]) rfl rfl rfl rfl (zs_goto rfl)
set_option maxRecDepth 100000 in
theorem zq_40_79 (d n z : Nat) (l4 : Int32) (d0 d1 d2 d3 d5 d6 : Option Value) (S : z_St) : z_R40 d (n + 1) 79 z [d0, d1, d2, d3, some (.int l4), d5, d6] [] S = some (.inl (some (.int (l4 + (nI 1)))), S) := by
  refine zs_run (L' := [none, none, none, none, some (.int l4), none, none]) rfl rfl ?_
  exact zs_iload rfl (zs_iconst (v := nI 1) rfl (zs_iadd (zs_iret rfl)))
/-- SlipRoom$Settling.leftBy([IIII)I -/
noncomputable def z_R41 (d : Nat) : Nat → z_K := z_run false (some .int) [] (z_ew d) z_b41
theorem ze_41 (d : Nat) (as : List Value) (S : z_St) (h : Nat.ble (z_sl as).length 6 = true) : z_ew (d + 1) 41 as S = z_R41 d z_fuel 0 0 (z_in 6 as) [] S := zs_ew h
set_option maxRecDepth 100000 in
theorem zq_41_0 (d n z : Nat) (l1 : Int32) (l2 : Int32) (l3 : Int32) (d4 d5 : Option Value) (S : z_St) : z_R41 d (n + 1) 0 z [some (.ref 36), some (.int l1), some (.int l2), some (.int l3), d4, d5] [] S = z_R41 d n 6 z [some (.ref 36), some (.int l1), some (.int l2), some (.int l3), some (.int (nI 0)), some (.int (nI 0))] [] S := by
  refine zs_run (L' := [some (.ref 36), some (.int l1), some (.int l2), some (.int l3), none, none]) rfl rfl ?_
  exact zs_iconst (v := nI 0) rfl (zs_istore (L' := [some (.ref 36), some (.int l1), some (.int l2), some (.int l3), some (.int (nI 0)), none]) rfl rfl (zs_iconst (v := nI 0) rfl (zs_istore (L' := [some (.ref 36), some (.int l1), some (.int l2), some (.int l3), some (.int (nI 0)), some (.int (nI 0))]) rfl rfl (zs_nil rfl))))
set_option maxRecDepth 100000 in
theorem zq_41_6 (d n z : Nat) (l1 : Int32) (l2 : Int32) (l3 : Int32) (l4 : Int32) (l5 : Int32) (S : z_St) : z_R41 d (n + 1) 6 z [some (.ref 36), some (.int l1), some (.int l2), some (.int l3), some (.int l4), some (.int l5)] [] S = if (nI 6) ≤ l5 then (z_R41 d n 51 z [some (.ref 36), some (.int l1), some (.int l2), some (.int l3), some (.int l4), some (.int l5)] [] S) else (if ((l2 >>> (l5 &&& 31)) &&& (nI 1)) = (nI 1) then (cond (z_ix ((l5 * (nI 10)) + l1) 60) (if (S.1 36 ((((l5 * (nI 10)) + l1)).toNatClampNeg)) = l3 then (z_R41 d n 45 z [some (.ref 36), some (.int l1), some (.int l2), some (.int l3), some (.int (l4 ||| ((nI 1) <<< (l5 &&& 31)))), some (.int l5)] [] S) else (z_R41 d n 45 z [some (.ref 36), some (.int l1), some (.int l2), some (.int l3), some (.int l4), some (.int l5)] [] S)) none) else (z_R41 d n 45 z [some (.ref 36), some (.int l1), some (.int l2), some (.int l3), some (.int l4), some (.int l5)] [] S)) := by
  refine zs_run (L' := [some (.ref 36), some (.int l1), some (.int l2), some (.int l3), some (.int l4), some (.int l5)]) rfl rfl ?_
  exact zs_iload rfl (zs_bipush (v := nI 6) rfl (zs_ic_ge rfl (zs_iload_n rfl (zs_iload rfl (zs_ishr (zs_iconst (v := nI 1) rfl (zs_iand (zs_iconst (v := nI 1) rfl (zs_ic_ne rfl (zs_aload_n rfl (zs_iload rfl (zs_bipush (v := nI 10) rfl (zs_imul (zs_iload_n rfl (zs_iadd (zs_ia (v := (S.1 36 ((((l5 * (nI 10)) + l1)).toNatClampNeg))) rfl rfl rfl rfl (zs_iload_n rfl (zs_ic_ne rfl (zs_iload rfl (zs_iconst (v := nI 1) rfl (zs_iload rfl (zs_ishl (zs_ior (zs_istore (L' := [some (.ref 36), some (.int l1), some (.int l2), some (.int l3), some (.int (l4 ||| ((nI 1) <<< (l5 &&& 31)))), some (.int l5)]) rfl rfl (zs_nil rfl)))))))))))))))))))))))))
set_option maxRecDepth 100000 in
theorem zq_41_45 (d n z : Nat) (l1 : Int32) (l2 : Int32) (l3 : Int32) (l4 : Int32) (l5 : Int32) (S : z_St) : z_R41 d (n + 1) 45 z [some (.ref 36), some (.int l1), some (.int l2), some (.int l3), some (.int l4), some (.int l5)] [] S = z_R41 d n 6 z [some (.ref 36), some (.int l1), some (.int l2), some (.int l3), some (.int l4), some (.int (l5 + (nI 1)))] [] S := by
  refine zs_run (L' := [some (.ref 36), some (.int l1), some (.int l2), some (.int l3), some (.int l4), some (.int l5)]) rfl rfl ?_
  exact zs_iinc (v := nI 1) (L' := [some (.ref 36), some (.int l1), some (.int l2), some (.int l3), some (.int l4), some (.int (l5 + (nI 1)))]) rfl rfl rfl rfl (zs_goto rfl)
set_option maxRecDepth 100000 in
theorem zq_41_51 (d n z : Nat) (l4 : Int32) (d0 d1 d2 d3 d5 : Option Value) (S : z_St) : z_R41 d (n + 1) 51 z [d0, d1, d2, d3, some (.int l4), d5] [] S = some (.inl (some (.int l4)), S) := by
  refine zs_run (L' := [none, none, none, none, some (.int l4), none]) rfl rfl ?_
  exact zs_iload rfl (zs_iret rfl)
/-- SlipRoom$Turns.clear()V -/
noncomputable def z_R70 (d : Nat) : Nat → z_K := z_run false none [] (z_ew d) z_b70
theorem ze_70 (d : Nat) (as : List Value) (S : z_St) (h : Nat.ble (z_sl as).length 1 = true) : z_ew (d + 1) 70 as S = z_R70 d z_fuel 0 0 (z_in 1 as) [] S := zs_ew h
set_option maxRecDepth 100000 in
theorem zq_70_0 (d n z : Nat)  (S : z_St) : z_R70 d (n + 1) 0 z [some (.ref 64)] [] S = some (.inl none, ((z_w1 S.1 64 1 (nI 0)), S.2)) := by
  refine zs_run (L' := [some (.ref 64)]) rfl rfl ?_
  exact zs_aload_n rfl (zs_iconst (v := nI 0) rfl (zs_put (S' := ((z_w1 S.1 64 1 (nI 0)), S.2)) rfl rfl (zs_ret rfl)))
/-- SlipRoom$Turns.arrange(LSlipRoom$Ledger;)I -/
noncomputable def z_R71 (d : Nat) : Nat → z_K := z_run false (some .int) [] (z_ew d) z_b71
theorem ze_71 (d : Nat) (as : List Value) (S : z_St) (h : Nat.ble (z_sl as).length 2 = true) : z_ew (d + 1) 71 as S = z_R71 d z_fuel 0 0 (z_in 2 as) [] S := zs_ew h
set_option maxRecDepth 100000 in
theorem zq_71_0 (d n z : Nat)  (S : z_St) : z_R71 d (n + 1) 0 z [some (.ref 64), some (.ref 24)] [] S = z_clv (z_ew d 72 [.ref 64, .ref 24, .int (nI 0), .int (nI 0), .int (nI 0), .int (nI 0)] ((z_w1 (z_w1 S.1 64 3 (nI 1000000)) 64 1 (S.1 24 12)), S.2)) (fun S1 => some (.inl (some (.int (S1.1 64 3))), S1)) (z_hnd []) := by
  refine zs_run (L' := [some (.ref 64), some (.ref 24)]) rfl rfl ?_
  exact zs_aload_n rfl (zs_ldc0 (zs_put (S' := ((z_w1 S.1 64 3 (nI 1000000)), S.2)) rfl rfl (zs_aload_n rfl (zs_aload_n rfl (zs_get0 (x := (S.1 24 12)) rfl rfl (zs_put (S' := ((z_w1 (z_w1 S.1 64 3 (nI 1000000)) 64 1 (S.1 24 12)), S.2)) rfl rfl (zs_aload_n rfl (zs_aload_n rfl (zs_iconst (v := nI 0) rfl (zs_iconst (v := nI 0) rfl (zs_iconst (v := nI 0) rfl (zs_iconst (v := nI 0) rfl (zs_Vv rfl rfl (Or.inr ⟨Or.inl rfl, _, _, rfl, rfl⟩) (fun S1 => zs_aload_n rfl (zs_get0 (x := (S1.1 64 3)) rfl rfl (zs_iret rfl))) (fun _ _ => rfl))))))))))))))
/-- SlipRoom$Turns.place(LSlipRoom$Ledger;IIII)V -/
noncomputable def z_R72 (d : Nat) : Nat → z_K := z_run false none [] (z_ew d) z_b72
theorem ze_72 (d : Nat) (as : List Value) (S : z_St) (h : Nat.ble (z_sl as).length 9 = true) : z_ew (d + 1) 72 as S = z_R72 d z_fuel 0 0 (z_in 9 as) [] S := zs_ew h
set_option maxRecDepth 100000 in
theorem zq_72_0 (d n z : Nat) (l2 : Int32) (l3 : Int32) (l4 : Int32) (l5 : Int32) (d6 d7 d8 : Option Value) (S : z_St) : z_R72 d (n + 1) 0 z [some (.ref 64), some (.ref 24), some (.int l2), some (.int l3), some (.int l4), some (.int l5), d6, d7, d8] [] S = if l5 < (S.1 64 3) then (z_R72 d n 10 z [some (.ref 64), some (.ref 24), some (.int l2), some (.int l3), some (.int l4), some (.int l5), none, none, none] [] S) else (some (.inl none, S)) := by
  refine zs_run (L' := [some (.ref 64), some (.ref 24), some (.int l2), some (.int l3), some (.int l4), some (.int l5), none, none, none]) rfl rfl ?_
  exact zs_iload rfl (zs_aload_n rfl (zs_get0 (x := (S.1 64 3)) rfl rfl (zs_ic_lt rfl (zs_ret rfl))))
set_option maxRecDepth 100000 in
theorem zq_72_10 (d n z : Nat) (l2 : Int32) (l3 : Int32) (l4 : Int32) (l5 : Int32) (d6 d7 d8 : Option Value) (S : z_St) : z_R72 d (n + 1) 10 z [some (.ref 64), some (.ref 24), some (.int l2), some (.int l3), some (.int l4), some (.int l5), d6, d7, d8] [] S = if (S.1 24 12) ≤ l2 then (z_R72 d n 24 z [some (.ref 64), some (.ref 24), some (.int l2), some (.int l3), some (.int l4), some (.int l5), none, none, none] [] S) else (if l2 < (nI 7) then (z_R72 d n 48 z [some (.ref 64), some (.ref 24), some (.int l2), some (.int l3), some (.int l4), some (.int l5), none, none, none] [] S) else (z_R72 d n 24 z [some (.ref 64), some (.ref 24), some (.int l2), some (.int l3), some (.int l4), some (.int l5), none, none, none] [] S)) := by
  refine zs_run (L' := [some (.ref 64), some (.ref 24), some (.int l2), some (.int l3), some (.int l4), some (.int l5), none, none, none]) rfl rfl ?_
  exact zs_iload_n rfl (zs_aload_n rfl (zs_get0 (x := (S.1 24 12)) rfl rfl (zs_ic_ge rfl (zs_iload_n rfl (zs_bipush (v := nI 7) rfl (zs_ic_lt rfl (zs_nil rfl)))))))
set_option maxRecDepth 100000 in
theorem zq_72_24 (d n z : Nat) (l5 : Int32) (d1 d2 d3 d4 d6 d7 d8 : Option Value) (S : z_St) : z_R72 d (n + 1) 24 z [some (.ref 64), d1, d2, d3, d4, some (.int l5), d6, d7, d8] [] S = cond (Nat.beq (z_at 66) (z_at 65) && !(Nat.beq 66 65) && !(decide ((nI 0) < 0)) && !(decide ((nI 0) < 0)) && !(decide ((S.1 64 1) < 0)) && decide ((nI 0).toNatClampNeg + ((S.1 64 1)).toNatClampNeg ≤ z_ln 66) && decide ((nI 0).toNatClampNeg + ((S.1 64 1)).toNatClampNeg ≤ z_ln 65)) (some (.inl none, ((z_c1 (z_w1 S.1 64 3 l5) 66 65 (nI 0).toNatClampNeg (nI 0).toNatClampNeg ((S.1 64 1)).toNatClampNeg), S.2))) none := by
  refine zs_run (L' := [some (.ref 64), none, none, none, none, some (.int l5), none, none, none]) rfl rfl ?_
  exact zs_aload_n rfl (zs_iload rfl (zs_put (S' := ((z_w1 S.1 64 3 l5), S.2)) rfl rfl (zs_aload_n rfl (zs_get2 (b := 66) rfl rfl (zs_iconst (v := nI 0) rfl (zs_aload_n rfl (zs_get2 (b := 65) rfl rfl (zs_iconst (v := nI 0) rfl (zs_aload_n rfl (zs_get0 (x := (S.1 64 1)) rfl rfl (zs_cp1 (S' := ((z_c1 (z_w1 S.1 64 3 l5) 66 65 (nI 0).toNatClampNeg (nI 0).toNatClampNeg ((S.1 64 1)).toNatClampNeg), S.2)) rfl rfl rfl rfl (zs_ret rfl))))))))))))
set_option maxRecDepth 100000 in
theorem zq_72_48 (d n z : Nat) (l2 : Int32) (l3 : Int32) (l4 : Int32) (l5 : Int32) (d6 d7 d8 : Option Value) (S : z_St) : z_R72 d (n + 1) 48 z [some (.ref 64), some (.ref 24), some (.int l2), some (.int l3), some (.int l4), some (.int l5), d6, d7, d8] [] S = z_R72 d n 51 z [some (.ref 64), some (.ref 24), some (.int l2), some (.int l3), some (.int l4), some (.int l5), some (.int (nI 0)), none, none] [] S := by
  refine zs_run (L' := [some (.ref 64), some (.ref 24), some (.int l2), some (.int l3), some (.int l4), some (.int l5), none, none, none]) rfl rfl ?_
  exact zs_iconst (v := nI 0) rfl (zs_istore (L' := [some (.ref 64), some (.ref 24), some (.int l2), some (.int l3), some (.int l4), some (.int l5), some (.int (nI 0)), none, none]) rfl rfl (zs_nil rfl))
set_option maxRecDepth 100000 in
theorem zq_72_51 (d n z : Nat) (l2 : Int32) (l3 : Int32) (l4 : Int32) (l5 : Int32) (l6 : Int32) (d7 d8 : Option Value) (S : z_St) : z_R72 d (n + 1) 51 z [some (.ref 64), some (.ref 24), some (.int l2), some (.int l3), some (.int l4), some (.int l5), some (.int l6), d7, d8] [] S = if (S.1 24 12) ≤ l6 then (z_R72 d n 133 z [some (.ref 64), some (.ref 24), some (.int l2), some (.int l3), some (.int l4), some (.int l5), some (.int l6), none, none] [] S) else (if ((l3 >>> (l6 &&& 31)) &&& (nI 1)) = 0 then (cond (z_ix l6 7) (z_cli (z_ew d 187 [.int l4, .int (S.1 35 ((l6).toNatClampNeg))] S) (fun x2 S1 => cond (z_ix l2 7) (cond (z_ix l6 7) (z_clv (z_ew d 72 [.ref 64, .ref 24, .int (l2 + (nI 1)), .int (l3 ||| ((nI 1) <<< (l6 &&& 31))), .int (x2 + (S1.1 34 ((l6).toNatClampNeg))), .int ((l5 + x2) - (S.1 35 ((l6).toNatClampNeg)))] ((z_w1 S1.1 66 ((l2).toNatClampNeg) l6), S1.2)) (fun S3 => z_R72 d n 127 z [some (.ref 64), some (.ref 24), some (.int l2), some (.int l3), some (.int l4), some (.int l5), some (.int l6), some (.int (S.1 35 ((l6).toNatClampNeg))), some (.int x2)] [] S3) (z_hnd [])) none) none) (z_hnd [])) none) else (z_R72 d n 127 z [some (.ref 64), some (.ref 24), some (.int l2), some (.int l3), some (.int l4), some (.int l5), some (.int l6), none, none] [] S)) := by
  refine zs_run (L' := [some (.ref 64), some (.ref 24), some (.int l2), some (.int l3), some (.int l4), some (.int l5), some (.int l6), none, none]) rfl rfl ?_
  exact zs_iload rfl (zs_aload_n rfl (zs_get0 (x := (S.1 24 12)) rfl rfl (zs_ic_ge rfl (zs_iload_n rfl (zs_iload rfl (zs_ishr (zs_iconst (v := nI 1) rfl (zs_iand (zs_if_ne rfl (zs_aload_n rfl (zs_get2 (b := 35) rfl rfl (zs_iload rfl (zs_ia (v := (S.1 35 ((l6).toNatClampNeg))) rfl rfl rfl rfl (zs_istore (L' := [some (.ref 64), some (.ref 24), some (.int l2), some (.int l3), some (.int l4), some (.int l5), some (.int l6), some (.int (S.1 35 ((l6).toNatClampNeg))), none]) rfl rfl (zs_iload rfl (zs_iload rfl (zs_Si rfl rfl (Or.inl (Or.inl rfl)) (fun x2 S1 => zs_istore (L' := [some (.ref 64), some (.ref 24), some (.int l2), some (.int l3), some (.int l4), some (.int l5), some (.int l6), some (.int (S.1 35 ((l6).toNatClampNeg))), some (.int x2)]) rfl rfl (zs_aload_n rfl (zs_get2 (b := 66) rfl rfl (zs_iload_n rfl (zs_iload rfl (zs_ias (S' := ((z_w1 S1.1 66 ((l2).toNatClampNeg) l6), S1.2)) rfl rfl rfl (zs_aload_n rfl (zs_aload_n rfl (zs_iload_n rfl (zs_iconst (v := nI 1) rfl (zs_iadd (zs_iload_n rfl (zs_iconst (v := nI 1) rfl (zs_iload rfl (zs_ishl (zs_ior (zs_iload rfl (zs_aload_n rfl (zs_get2 (b := 34) rfl rfl (zs_iload rfl (zs_ia (v := (S1.1 34 ((l6).toNatClampNeg))) rfl rfl rfl rfl (zs_iadd (zs_iload rfl (zs_iload rfl (zs_iadd (zs_iload rfl (zs_isub (zs_Vv rfl rfl (Or.inr ⟨Or.inl rfl, _, _, rfl, rfl⟩) (fun S3 => zs_nil rfl) (fun _ _ => rfl))))))))))))))))))))))))))))) (fun _ _ => rfl))))))))))))))))))
set_option maxRecDepth 100000 in
theorem zq_72_127 (d n z : Nat) (l2 : Int32) (l3 : Int32) (l4 : Int32) (l5 : Int32) (l6 : Int32) (d7 d8 : Option Value) (S : z_St) : z_R72 d (n + 1) 127 z [some (.ref 64), some (.ref 24), some (.int l2), some (.int l3), some (.int l4), some (.int l5), some (.int l6), d7, d8] [] S = z_R72 d n 51 z [some (.ref 64), some (.ref 24), some (.int l2), some (.int l3), some (.int l4), some (.int l5), some (.int (l6 + (nI 1))), none, none] [] S := by
  refine zs_run (L' := [some (.ref 64), some (.ref 24), some (.int l2), some (.int l3), some (.int l4), some (.int l5), some (.int l6), none, none]) rfl rfl ?_
  exact zs_iinc (v := nI 1) (L' := [some (.ref 64), some (.ref 24), some (.int l2), some (.int l3), some (.int l4), some (.int l5), some (.int (l6 + (nI 1))), none, none]) rfl rfl rfl rfl (zs_goto rfl)
set_option maxRecDepth 100000 in
theorem zq_72_133 (d n z : Nat)  (d0 d1 d2 d3 d4 d5 d6 d7 d8 : Option Value) (S : z_St) : z_R72 d (n + 1) 133 z [d0, d1, d2, d3, d4, d5, d6, d7, d8] [] S = some (.inl none, S) := by
  refine zs_run (L' := [none, none, none, none, none, none, none, none, none]) rfl rfl ?_
  exact zs_ret rfl
/-- SlipRoom$Word.find([BII)LSlipRoom$Word; -/
noncomputable def z_R73 (d : Nat) : Nat → z_K := z_run false (some (.object "SlipRoom$Word")) [] (z_ew d) z_b73
theorem ze_73 (d : Nat) (as : List Value) (S : z_St) (h : Nat.ble (z_sl as).length 6 = true) : z_ew (d + 1) 73 as S = z_R73 d z_fuel 0 0 (z_in 6 as) [] S := zs_ew h
set_option maxRecDepth 100000 in
theorem zq_73_0 (d n z : Nat) (l1 : Int32) (l2 : Int32) (d3 d4 d5 : Option Value) (S : z_St) : z_R73 d (n + 1) 0 z [some (.ref 1), some (.int l1), some (.int l2), d3, d4, d5] [] S = z_R73 d n 2 z [some (.ref 1), some (.int l1), some (.int l2), some (.int (nI 0)), none, none] [] S := by
  refine zs_run (L' := [some (.ref 1), some (.int l1), some (.int l2), none, none, none]) rfl rfl ?_
  exact zs_iconst (v := nI 0) rfl (zs_istore_n (L' := [some (.ref 1), some (.int l1), some (.int l2), some (.int (nI 0)), none, none]) rfl rfl (zs_nil rfl))
set_option maxRecDepth 100000 in
theorem zq_73_2 (d n z : Nat) (l1 : Int32) (l2 : Int32) (l3 : Int32) (d4 d5 : Option Value) (S : z_St) : z_R73 d (n + 1) 2 z [some (.ref 1), some (.int l1), some (.int l2), some (.int l3), d4, d5] [] S = if (nI 17) ≤ l3 then (z_R73 d n 93 z [some (.ref 1), some (.int l1), some (.int l2), some (.int l3), none, none] [] S) else (cond (z_ix l3 17) (cond (z_isO 10 (1000 + (l3).toNatClampNeg)) (z_R73 d n 23 z [some (.ref 1), some (.int l1), some (.int l2), some (.int l3), some (.ref ((1000 + (l3).toNatClampNeg) + 200)), some (.int (nI 0))] [] S) none) none) := by
  refine zs_run (L' := [some (.ref 1), some (.int l1), some (.int l2), some (.int l3), none, none]) rfl rfl ?_
  exact zs_iload_n rfl (zs_getstatic (zs_alA rfl (zs_ic_ge rfl (zs_getstatic (zs_iload_n rfl (zs_aaA (zs_get4c (zs_astore (L' := [some (.ref 1), some (.int l1), some (.int l2), some (.int l3), some (.ref ((1000 + (l3).toNatClampNeg) + 200)), none]) rfl rfl (zs_iconst (v := nI 0) rfl (zs_istore (L' := [some (.ref 1), some (.int l1), some (.int l2), some (.int l3), some (.ref ((1000 + (l3).toNatClampNeg) + 200)), some (.int (nI 0))]) rfl rfl (zs_nil rfl)))))))))))
set_option maxRecDepth 100000 in
theorem zq_73_23 (d n z : Nat) (l1 : Int32) (l2 : Int32) (l3 : Int32) (r4 : Nat) (l5 : Int32) (S : z_St) : z_R73 d (n + 1) 23 z [some (.ref 1), some (.int l1), some (.int l2), some (.int l3), some (.ref r4), some (.int l5)] [] S = cond (Nat.ble 1200 r4 && Nat.blt r4 1217) (if (nI ((z_tx.getD (r4 - 1200) []).length)) ≤ l5 then (z_R73 d n 63 z [some (.ref 1), some (.int l1), some (.int l2), some (.int l3), some (.ref r4), some (.int l5)] [] S) else (if l2 ≤ (l1 + l5) then (z_R73 d n 63 z [some (.ref 1), some (.int l1), some (.int l2), some (.int l3), some (.ref r4), some (.int l5)] [] S) else (cond (z_ix (l1 + l5) 700) (cond (Nat.ble 1200 r4 && Nat.blt r4 1217 && z_ix l5 (z_tx.getD (r4 - 1200) []).length) (if (S.1 1 (((l1 + l5)).toNatClampNeg)) = ((z_tx.getD (r4 - 1200) []).getD (l5).toNatClampNeg 0) then (z_R73 d n 23 z [some (.ref 1), some (.int l1), some (.int l2), some (.int l3), some (.ref r4), some (.int (l5 + (nI 1)))] [] S) else (z_R73 d n 63 z [some (.ref 1), some (.int l1), some (.int l2), some (.int l3), some (.ref r4), some (.int l5)] [] S)) none) none))) none := by
  refine zs_run (L' := [some (.ref 1), some (.int l1), some (.int l2), some (.int l3), some (.ref r4), some (.int l5)]) rfl rfl ?_
  exact zs_iload rfl (zs_aload rfl (zs_slen rfl rfl (zs_ic_ge rfl (zs_iload_n rfl (zs_iload rfl (zs_iadd (zs_iload_n rfl (zs_ic_ge rfl (zs_aload_n rfl (zs_iload_n rfl (zs_iload rfl (zs_iadd (zs_ba (v := (S.1 1 (((l1 + l5)).toNatClampNeg))) rfl rfl rfl (zs_aload rfl (zs_iload rfl (zs_schr rfl rfl (zs_ic_ne rfl (zs_iinc (v := nI 1) (L' := [some (.ref 1), some (.int l1), some (.int l2), some (.int l3), some (.ref r4), some (.int (l5 + (nI 1)))]) rfl rfl rfl rfl (zs_goto rfl)))))))))))))))))))
set_option maxRecDepth 100000 in
theorem zq_73_63 (d n z : Nat) (l1 : Int32) (l2 : Int32) (l3 : Int32) (r4 : Nat) (l5 : Int32) (S : z_St) : z_R73 d (n + 1) 63 z [some (.ref 1), some (.int l1), some (.int l2), some (.int l3), some (.ref r4), some (.int l5)] [] S = cond (Nat.ble 1200 r4 && Nat.blt r4 1217) (if l5 = (nI ((z_tx.getD (r4 - 1200) []).length)) then (if (l1 + l5) = l2 then (cond (z_ix l3 17) (some (.inl (some (.ref (1000 + (l3).toNatClampNeg))), S)) none) else (z_R73 d n 87 z [some (.ref 1), some (.int l1), some (.int l2), some (.int l3), some (.ref r4), some (.int l5)] [] S)) else (z_R73 d n 87 z [some (.ref 1), some (.int l1), some (.int l2), some (.int l3), some (.ref r4), some (.int l5)] [] S)) none := by
  refine zs_run (L' := [some (.ref 1), some (.int l1), some (.int l2), some (.int l3), some (.ref r4), some (.int l5)]) rfl rfl ?_
  exact zs_iload rfl (zs_aload rfl (zs_slen rfl rfl (zs_ic_ne rfl (zs_iload_n rfl (zs_iload rfl (zs_iadd (zs_iload_n rfl (zs_ic_ne rfl (zs_getstatic (zs_iload_n rfl (zs_aaA (zs_aret rfl))))))))))))
set_option maxRecDepth 100000 in
theorem zq_73_87 (d n z : Nat) (l1 : Int32) (l2 : Int32) (l3 : Int32) (d4 d5 : Option Value) (S : z_St) : z_R73 d (n + 1) 87 z [some (.ref 1), some (.int l1), some (.int l2), some (.int l3), d4, d5] [] S = z_R73 d n 2 z [some (.ref 1), some (.int l1), some (.int l2), some (.int (l3 + (nI 1))), none, none] [] S := by
  refine zs_run (L' := [some (.ref 1), some (.int l1), some (.int l2), some (.int l3), none, none]) rfl rfl ?_
  exact zs_iinc (v := nI 1) (L' := [some (.ref 1), some (.int l1), some (.int l2), some (.int (l3 + (nI 1))), none, none]) rfl rfl rfl rfl (zs_goto rfl)
set_option maxRecDepth 100000 in
theorem zq_73_93 (d n z : Nat)  (d0 d1 d2 d3 d4 d5 : Option Value) (S : z_St) : z_R73 d (n + 1) 93 z [d0, d1, d2, d3, d4, d5] [] S = some (.inl (some (.ref 1000)), S) := by
  refine zs_run (L' := [none, none, none, none, none, none]) rfl rfl ?_
  exact zs_getstatic (zs_aret rfl)
