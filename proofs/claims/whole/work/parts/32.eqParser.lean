/-- SlipRoom$Parser.parse(ILSlipRoom$Plan;)I -/
noncomputable def z_R22 (d : Nat) : Nat → z_K := z_run false (some .int) [] (z_ew d) z_b22
theorem ze_22 (d : Nat) (as : List Value) (S : z_St) (h : Nat.ble (z_sl as).length 4 = true) : z_ew (d + 1) 22 as S = z_R22 d z_fuel 0 0 (z_in 4 as) [] S := zs_ew h
set_option maxRecDepth 100000 in
theorem zq_22_0 (d n z : Nat) (l1 : Int32) (r2 : Nat) (d3 : Option Value) (S : z_St) : z_R22 d (n + 1) 0 z [some (.ref 22), some (.int l1), some (.ref r2), d3] [] S = cond (Nat.blt r2 2000) (cond (decide ((nI r2) = -1)) none (cond (z_isO 3 (((nI r2)).toNatClampNeg)) (z_clv (z_ew d 35 [.ref (((nI r2)).toNatClampNeg)] ((z_w1 S.1 22 1 (nI r2)), S.2)) (fun S1 => z_clv (z_ew d 59 [.ref 23, .int l1] ((z_w1 (z_w1 S1.1 22 2 (nI 0)) 22 3 (-nI 1)), S1.2)) (fun S2 => z_R22 d n 32 z [some (.ref 22), some (.int l1), some (.ref r2), some (.int (nI 0))] [] S2) (z_hnd [])) (z_hnd [])) none)) none := by
  refine zs_run (L' := [some (.ref 22), some (.int l1), some (.ref r2), none]) rfl rfl ?_
  exact zs_aload_n rfl (zs_aload_n rfl (zs_putrc (S' := ((z_w1 S.1 22 1 (nI r2)), S.2)) rfl rfl (zs_aload_n rfl (zs_get1 (x := (nI r2)) rfl rfl (zs_Vvc rfl rfl (Or.inl rfl) (fun S1 => zs_aload_n rfl (zs_iconst (v := nI 0) rfl (zs_put (S' := ((z_w1 S1.1 22 2 (nI 0)), S1.2)) rfl rfl (zs_aload_n rfl (zs_iconst (v := (-nI 1)) rfl (zs_put (S' := ((z_w1 (z_w1 S1.1 22 2 (nI 0)) 22 3 (-nI 1)), S1.2)) rfl rfl (zs_aload_n rfl (zs_get3 rfl (zs_iload_n rfl (zs_Vv rfl rfl (Or.inr ⟨Or.inl rfl, _, _, rfl, rfl⟩) (fun S2 => zs_iconst (v := nI 0) rfl (zs_istore_n (L' := [some (.ref 22), some (.int l1), some (.ref r2), some (.int (nI 0))]) rfl rfl (zs_nil rfl))) (fun _ _ => rfl))))))))))) (fun _ _ => rfl))))))
set_option maxRecDepth 100000 in
theorem zq_22_32 (d n z : Nat) (l1 : Int32) (l3 : Int32) (d2 : Option Value) (S : z_St) : z_R22 d (n + 1) 32 z [some (.ref 22), some (.int l1), d2, some (.int l3)] [] S = if l1 ≤ l3 then (z_R22 d n 98 z [some (.ref 22), some (.int l1), none, some (.int l3)] [] S) else (if (S.1 23 3) = 0 then (z_R22 d n 98 z [some (.ref 22), some (.int l1), none, some (.int l3)] [] S) else (cond (decide ((S.1 23 6) = -1)) none (cond (Nat.ble 1000 (((S.1 23 6)).toNatClampNeg) && Nat.blt (((S.1 23 6)).toNatClampNeg) 1017 && Nat.ble 1000 1001 && Nat.blt 1001 1017) (if (((S.1 23 6)).toNatClampNeg) = 1001 then (z_clv (z_ew d 25 [.ref 22] S) (fun S1 => z_R22 d n 92 z [some (.ref 22), some (.int l1), none, some (.int l3)] [] S1) (z_hnd [])) else (z_R22 d n 67 z [some (.ref 22), some (.int l1), none, some (.int l3)] [] S)) none))) := by
  refine zs_run (L' := [some (.ref 22), some (.int l1), none, some (.int l3)]) rfl rfl ?_
  exact zs_iload_n rfl (zs_iload_n rfl (zs_ic_ge rfl (zs_aload_n rfl (zs_get3 rfl (zs_get0 (x := (S.1 23 3)) rfl rfl (zs_if_eq rfl (zs_aload_n rfl (zs_get3 rfl (zs_get1 (x := (S.1 23 6)) rfl rfl (zs_getstatic (zs_ac_ne rfl (zs_aload_n rfl (zs_Vv rfl rfl (Or.inr ⟨Or.inl rfl, _, _, rfl, rfl⟩) (fun S1 => zs_goto rfl) (fun _ _ => rfl))))))))))))))
set_option maxRecDepth 100000 in
theorem zq_22_67 (d n z : Nat) (l1 : Int32) (l3 : Int32) (d2 : Option Value) (S : z_St) : z_R22 d (n + 1) 67 z [some (.ref 22), some (.int l1), d2, some (.int l3)] [] S = cond (decide ((S.1 23 6) = -1)) none (cond (Nat.ble 1000 (((S.1 23 6)).toNatClampNeg) && Nat.blt (((S.1 23 6)).toNatClampNeg) 1017 && Nat.ble 1000 1003 && Nat.blt 1003 1017) (if (((S.1 23 6)).toNatClampNeg) = 1003 then (z_clv (z_ew d 26 [.ref 22] S) (fun S1 => z_R22 d n 92 z [some (.ref 22), some (.int l1), none, some (.int l3)] [] S1) (z_hnd [])) else (z_R22 d n 87 z [some (.ref 22), some (.int l1), none, some (.int l3)] [] S)) none) := by
  refine zs_run (L' := [some (.ref 22), some (.int l1), none, some (.int l3)]) rfl rfl ?_
  exact zs_aload_n rfl (zs_get3 rfl (zs_get1 (x := (S.1 23 6)) rfl rfl (zs_getstatic (zs_ac_ne rfl (zs_aload_n rfl (zs_Vv rfl rfl (Or.inr ⟨Or.inl rfl, _, _, rfl, rfl⟩) (fun S1 => zs_goto rfl) (fun _ _ => rfl)))))))
set_option maxRecDepth 100000 in
theorem zq_22_87 (d n z : Nat) (l1 : Int32) (l3 : Int32) (d2 : Option Value) (S : z_St) : z_R22 d (n + 1) 87 z [some (.ref 22), some (.int l1), d2, some (.int l3)] [] S = z_clv (z_ew d 24 [.ref 22, .int (nI 1)] S) (fun S1 => z_R22 d n 92 z [some (.ref 22), some (.int l1), none, some (.int l3)] [] S1) (z_hnd []) := by
  refine zs_run (L' := [some (.ref 22), some (.int l1), none, some (.int l3)]) rfl rfl ?_
  exact zs_aload_n rfl (zs_iconst (v := nI 1) rfl (zs_Vv rfl rfl (Or.inr ⟨Or.inl rfl, _, _, rfl, rfl⟩) (fun S1 => zs_nil rfl) (fun _ _ => rfl)))
set_option maxRecDepth 100000 in
theorem zq_22_92 (d n z : Nat) (l1 : Int32) (l3 : Int32) (d2 : Option Value) (S : z_St) : z_R22 d (n + 1) 92 z [some (.ref 22), some (.int l1), d2, some (.int l3)] [] S = z_R22 d n 32 z [some (.ref 22), some (.int l1), none, some (.int (l3 + (nI 1)))] [] S := by
  refine zs_run (L' := [some (.ref 22), some (.int l1), none, some (.int l3)]) rfl rfl ?_
  exact zs_iinc (v := nI 1) (L' := [some (.ref 22), some (.int l1), none, some (.int (l3 + (nI 1)))]) rfl rfl rfl rfl (zs_goto rfl)
set_option maxRecDepth 100000 in
theorem zq_22_98 (d n z : Nat)  (d1 d2 d3 : Option Value) (S : z_St) : z_R22 d (n + 1) 98 z [some (.ref 22), d1, d2, d3] [] S = some (.inl (some (.int (S.1 22 2))), S) := by
  refine zs_run (L' := [some (.ref 22), none, none, none]) rfl rfl ?_
  exact zs_aload_n rfl (zs_get0 (x := (S.1 22 2)) rfl rfl (zs_iret rfl))
/-- SlipRoom$Parser.faultPlace()I -/
noncomputable def z_R23 (d : Nat) : Nat → z_K := z_run false (some .int) [] (z_ew d) z_b23
theorem ze_23 (d : Nat) (as : List Value) (S : z_St) (h : Nat.ble (z_sl as).length 1 = true) : z_ew (d + 1) 23 as S = z_R23 d z_fuel 0 0 (z_in 1 as) [] S := zs_ew h
set_option maxRecDepth 100000 in
theorem zq_23_0 (d n z : Nat)  (S : z_St) : z_R23 d (n + 1) 0 z [some (.ref 22)] [] S = some (.inl (some (.int (S.1 22 3))), S) := by
  refine zs_run (L' := [some (.ref 22)]) rfl rfl ?_
  exact zs_aload_n rfl (zs_get0 (x := (S.1 22 3)) rfl rfl (zs_iret rfl))
/-- SlipRoom$Parser.fail(I)V -/
noncomputable def z_R24 (d : Nat) : Nat → z_K := z_run false none [] (z_ew d) z_b24
theorem ze_24 (d : Nat) (as : List Value) (S : z_St) (h : Nat.ble (z_sl as).length 2 = true) : z_ew (d + 1) 24 as S = z_R24 d z_fuel 0 0 (z_in 2 as) [] S := zs_ew h
set_option maxRecDepth 100000 in
theorem zq_24_0 (d n z : Nat) (l1 : Int32) (S : z_St) : z_R24 d (n + 1) 0 z [some (.ref 22), some (.int l1)] [] S = if (S.1 22 2) = 0 then (z_R24 d n 23 z [some (.ref 22), some (.int l1)] [] ((z_w1 (z_w1 S.1 22 2 l1) 22 3 (S.1 23 4)), S.2)) else (z_R24 d n 23 z [some (.ref 22), some (.int l1)] [] S) := by
  refine zs_run (L' := [some (.ref 22), some (.int l1)]) rfl rfl ?_
  exact zs_aload_n rfl (zs_get0 (x := (S.1 22 2)) rfl rfl (zs_if_ne rfl (zs_aload_n rfl (zs_iload_n rfl (zs_put (S' := ((z_w1 S.1 22 2 l1), S.2)) rfl rfl (zs_aload_n rfl (zs_aload_n rfl (zs_get3 rfl (zs_get0 (x := (S.1 23 4)) rfl rfl (zs_put (S' := ((z_w1 (z_w1 S.1 22 2 l1) 22 3 (S.1 23 4)), S.2)) rfl rfl (zs_nil rfl)))))))))))
set_option maxRecDepth 100000 in
theorem zq_24_23 (d n z : Nat)  (d1 : Option Value) (S : z_St) : z_R24 d (n + 1) 23 z [some (.ref 22), d1] [] S = z_clv (z_ew d 60 [.ref 23] S) (fun S1 => some (.inl none, S1)) (z_hnd []) := by
  refine zs_run (L' := [some (.ref 22), none]) rfl rfl ?_
  exact zs_aload_n rfl (zs_get3 rfl (zs_Vv rfl rfl (Or.inr ⟨Or.inl rfl, _, _, rfl, rfl⟩) (fun S1 => zs_ret rfl) (fun _ _ => rfl)))
/-- SlipRoom$Parser.bookClause()V -/
noncomputable def z_R25 (d : Nat) : Nat → z_K := z_run false none [] (z_ew d) z_b25
theorem ze_25 (d : Nat) (as : List Value) (S : z_St) (h : Nat.ble (z_sl as).length 2 = true) : z_ew (d + 1) 25 as S = z_R25 d z_fuel 0 0 (z_in 2 as) [] S := zs_ew h
set_option maxRecDepth 100000 in
theorem zq_25_0 (d n z : Nat)  (d1 : Option Value) (S : z_St) : z_R25 d (n + 1) 0 z [some (.ref 22), d1] [] S = cond (decide ((S.1 22 1) = -1)) none (cond (z_isO 3 (((S.1 22 1)).toNatClampNeg)) (if (S.1 (((S.1 22 1)).toNatClampNeg) 0) < (nI 10) then (z_R25 d n 20 z [some (.ref 22), some (.int (S.1 (((S.1 22 1)).toNatClampNeg) 0))] [] S) else (z_clv (z_ew d 24 [.ref 22, .int (nI 2)] S) (fun S1 => some (.inl none, S1)) (z_hnd []))) none) := by
  refine zs_run (L' := [some (.ref 22), none]) rfl rfl ?_
  exact zs_aload_n rfl (zs_get1 (x := (S.1 22 1)) rfl rfl (zs_get0c (x := (S.1 (((S.1 22 1)).toNatClampNeg) 0)) rfl (zs_istore_n (L' := [some (.ref 22), some (.int (S.1 (((S.1 22 1)).toNatClampNeg) 0))]) rfl rfl (zs_iload_n rfl (zs_bipush (v := nI 10) rfl (zs_ic_lt rfl (zs_aload_n rfl (zs_iconst (v := nI 2) rfl (zs_Vv rfl rfl (Or.inr ⟨Or.inl rfl, _, _, rfl, rfl⟩) (fun S1 => zs_ret rfl) (fun _ _ => rfl))))))))))
set_option maxRecDepth 100000 in
theorem zq_25_20 (d n z : Nat) (l1 : Int32) (S : z_St) : z_R25 d (n + 1) 20 z [some (.ref 22), some (.int l1)] [] S = cond (decide ((S.1 22 1) = -1)) none (cond (z_isO 3 (((S.1 22 1)).toNatClampNeg)) (cond (z_isO 3 (((S.1 22 1)).toNatClampNeg) && Nat.beq 0 0 && z_nb 0 ((S.1 (((S.1 22 1)).toNatClampNeg) 0) + (nI 1))) (z_clv (z_ew d 61 [.ref 23] ((z_w1 S.1 (((S.1 22 1)).toNatClampNeg) 0 ((S.1 (((S.1 22 1)).toNatClampNeg) 0) + (nI 1))), S.2)) (fun S1 => cond (decide ((S1.1 22 1) = -1)) none (cond (z_isO 3 (((S1.1 22 1)).toNatClampNeg)) (z_cli (z_ew d 29 [.ref 22, .int (nI 1), .int (nI 400)] S1) (fun x3 S2 => cond (Nat.beq (z_at (((S1.1 22 1)).toNatClampNeg + 1)) 1 && z_ix l1 (z_ln (((S1.1 22 1)).toNatClampNeg + 1))) (cond (decide (((z_w1 S2.1 (((S1.1 22 1)).toNatClampNeg + 1) ((l1).toNatClampNeg) x3) 22 1) = -1)) none (cond (z_isO 3 ((((z_w1 S2.1 (((S1.1 22 1)).toNatClampNeg + 1) ((l1).toNatClampNeg) x3) 22 1)).toNatClampNeg)) (z_cli (z_ew d 27 [.ref 22, .ref 1002] ((z_w1 S2.1 (((S1.1 22 1)).toNatClampNeg + 1) ((l1).toNatClampNeg) x3), S2.2)) (fun x5 S4 => if x5 = 0 then (z_R25 d n 86 z [some (.ref 22), some (.int l1)] [.int l1, .ref ((((z_w1 S2.1 (((S1.1 22 1)).toNatClampNeg + 1) ((l1).toNatClampNeg) x3) 22 1)).toNatClampNeg + 2)] S4) else (z_cli (z_ew d 29 [.ref 22, .int (nI 1), .int (nI 400)] S4) (fun x7 S6 => z_R25 d n 87 z [some (.ref 22), some (.int l1)] [.int x7, .int l1, .ref ((((z_w1 S2.1 (((S1.1 22 1)).toNatClampNeg + 1) ((l1).toNatClampNeg) x3) 22 1)).toNatClampNeg + 2)] S6) (z_hnd []))) (z_hnd [])) none)) none) (z_hnd [])) none)) (z_hnd [])) none) none) := by
  refine zs_run (L' := [some (.ref 22), some (.int l1)]) rfl rfl ?_
  exact zs_aload_n rfl (zs_get1 (x := (S.1 22 1)) rfl rfl (zs_dupr (zs_get0c (x := (S.1 (((S.1 22 1)).toNatClampNeg) 0)) rfl (zs_iconst (v := nI 1) rfl (zs_iadd (zs_putc (S' := ((z_w1 S.1 (((S.1 22 1)).toNatClampNeg) 0 ((S.1 (((S.1 22 1)).toNatClampNeg) 0) + (nI 1))), S.2)) rfl (zs_aload_n rfl (zs_get3 rfl (zs_Vv rfl rfl (Or.inr ⟨Or.inl rfl, _, _, rfl, rfl⟩) (fun S1 => zs_aload_n rfl (zs_get1 (x := (S1.1 22 1)) rfl rfl (zs_get2c (b := (((S1.1 22 1)).toNatClampNeg + 1)) rfl (zs_iload_n rfl (zs_aload_n rfl (zs_iconst (v := nI 1) rfl (zs_sipush (v := nI 400) rfl (zs_Vi rfl rfl (Or.inr ⟨Or.inl rfl, _, _, rfl, rfl⟩) (fun x3 S2 => zs_iasc (S' := ((z_w1 S2.1 (((S1.1 22 1)).toNatClampNeg + 1) ((l1).toNatClampNeg) x3), S2.2)) rfl (zs_aload_n rfl (zs_get1 (x := ((z_w1 S2.1 (((S1.1 22 1)).toNatClampNeg + 1) ((l1).toNatClampNeg) x3) 22 1)) rfl rfl (zs_get2c (b := ((((z_w1 S2.1 (((S1.1 22 1)).toNatClampNeg + 1) ((l1).toNatClampNeg) x3) 22 1)).toNatClampNeg + 2)) rfl (zs_iload_n rfl (zs_aload_n rfl (zs_getstatic (zs_Vi rfl rfl (Or.inr ⟨Or.inl rfl, _, _, rfl, rfl⟩) (fun x5 S4 => zs_if_eq rfl (zs_aload_n rfl (zs_iconst (v := nI 1) rfl (zs_sipush (v := nI 400) rfl (zs_Vi rfl rfl (Or.inr ⟨Or.inl rfl, _, _, rfl, rfl⟩) (fun x7 S6 => zs_goto rfl) (fun _ _ => rfl)))))) (fun _ _ => rfl))))))))) (fun _ _ => rfl))))))))) (fun _ _ => rfl))))))))))
set_option maxRecDepth 100000 in
theorem zq_25_86 (d n z : Nat) (t0 : Int32) (rt1 : Nat) (d1 : Option Value) (S : z_St) : z_R25 d (n + 1) 86 z [some (.ref 22), d1] [.int t0, .ref rt1] S = z_R25 d n 87 z [some (.ref 22), none] [.int (nI 0), .int t0, .ref rt1] S := by
  refine zs_run (L' := [some (.ref 22), none]) rfl rfl ?_
  exact zs_iconst (v := nI 0) rfl (zs_nil rfl)
set_option maxRecDepth 100000 in
theorem zq_25_87 (d n z : Nat) (t0 : Int32) (t1 : Int32) (rt2 : Nat) (d1 : Option Value) (S : z_St) : z_R25 d (n + 1) 87 z [some (.ref 22), d1] [.int t0, .int t1, .ref rt2] S = cond (Nat.beq (z_at rt2) 1 && z_ix t1 (z_ln rt2)) (z_clv (z_ew d 28 [.ref 22, .int (nI 59)] ((z_w1 S.1 rt2 ((t1).toNatClampNeg) t0), S.2)) (fun S1 => some (.inl none, S1)) (z_hnd [])) none := by
  refine zs_run (L' := [some (.ref 22), none]) rfl rfl ?_
  exact zs_iasc (S' := ((z_w1 S.1 rt2 ((t1).toNatClampNeg) t0), S.2)) rfl (zs_aload_n rfl (zs_bipush (v := nI 59) rfl (zs_Vv rfl rfl (Or.inr ⟨Or.inl rfl, _, _, rfl, rfl⟩) (fun S1 => zs_ret rfl) (fun _ _ => rfl))))
/-- SlipRoom$Parser.readerClause()V -/
noncomputable def z_R26 (d : Nat) : Nat → z_K := z_run false none [] (z_ew d) z_b26
theorem ze_26 (d : Nat) (as : List Value) (S : z_St) (h : Nat.ble (z_sl as).length 2 = true) : z_ew (d + 1) 26 as S = z_R26 d z_fuel 0 0 (z_in 2 as) [] S := zs_ew h
set_option maxRecDepth 100000 in
theorem zq_26_0 (d n z : Nat)  (d1 : Option Value) (S : z_St) : z_R26 d (n + 1) 0 z [some (.ref 22), d1] [] S = cond (decide ((S.1 22 1) = -1)) none (cond (z_isO 3 (((S.1 22 1)).toNatClampNeg)) (if (S.1 (((S.1 22 1)).toNatClampNeg) 3) < (nI 8) then (z_R26 d n 20 z [some (.ref 22), some (.int (S.1 (((S.1 22 1)).toNatClampNeg) 3))] [] S) else (z_clv (z_ew d 24 [.ref 22, .int (nI 2)] S) (fun S1 => some (.inl none, S1)) (z_hnd []))) none) := by
  refine zs_run (L' := [some (.ref 22), none]) rfl rfl ?_
  exact zs_aload_n rfl (zs_get1 (x := (S.1 22 1)) rfl rfl (zs_get0c (x := (S.1 (((S.1 22 1)).toNatClampNeg) 3)) rfl (zs_istore_n (L' := [some (.ref 22), some (.int (S.1 (((S.1 22 1)).toNatClampNeg) 3))]) rfl rfl (zs_iload_n rfl (zs_bipush (v := nI 8) rfl (zs_ic_lt rfl (zs_aload_n rfl (zs_iconst (v := nI 2) rfl (zs_Vv rfl rfl (Or.inr ⟨Or.inl rfl, _, _, rfl, rfl⟩) (fun S1 => zs_ret rfl) (fun _ _ => rfl))))))))))
set_option maxRecDepth 100000 in
theorem zq_26_20 (d n z : Nat) (l1 : Int32) (S : z_St) : z_R26 d (n + 1) 20 z [some (.ref 22), some (.int l1)] [] S = cond (decide ((S.1 22 1) = -1)) none (cond (z_isO 3 (((S.1 22 1)).toNatClampNeg)) (cond (z_isO 3 (((S.1 22 1)).toNatClampNeg) && Nat.beq 0 0 && z_nb 0 ((S.1 (((S.1 22 1)).toNatClampNeg) 3) + (nI 1))) (z_clv (z_ew d 61 [.ref 23] ((z_w1 S.1 (((S.1 22 1)).toNatClampNeg) 3 ((S.1 (((S.1 22 1)).toNatClampNeg) 3) + (nI 1))), S.2)) (fun S1 => cond (decide ((S1.1 22 1) = -1)) none (cond (z_isO 3 (((S1.1 22 1)).toNatClampNeg)) (z_cli (z_ew d 29 [.ref 22, .int (nI 1), .int (nI 60)] S1) (fun x3 S2 => cond (Nat.beq (z_at (((S1.1 22 1)).toNatClampNeg + 3)) 1 && z_ix l1 (z_ln (((S1.1 22 1)).toNatClampNeg + 3))) (cond (decide (((z_w1 S2.1 (((S1.1 22 1)).toNatClampNeg + 3) ((l1).toNatClampNeg) x3) 22 1) = -1)) none (cond (z_isO 3 ((((z_w1 S2.1 (((S1.1 22 1)).toNatClampNeg + 3) ((l1).toNatClampNeg) x3) 22 1)).toNatClampNeg)) (z_cli (z_ew d 27 [.ref 22, .ref 1004] ((z_w1 S2.1 (((S1.1 22 1)).toNatClampNeg + 3) ((l1).toNatClampNeg) x3), S2.2)) (fun x5 S4 => if x5 = 0 then (z_R26 d n 83 z [some (.ref 22), some (.int l1)] [.int l1, .ref ((((z_w1 S2.1 (((S1.1 22 1)).toNatClampNeg + 3) ((l1).toNatClampNeg) x3) 22 1)).toNatClampNeg + 4)] S4) else (z_cli (z_ew d 29 [.ref 22, .int (nI 0), .int (nI 3)] S4) (fun x7 S6 => z_R26 d n 84 z [some (.ref 22), some (.int l1)] [.int x7, .int l1, .ref ((((z_w1 S2.1 (((S1.1 22 1)).toNatClampNeg + 3) ((l1).toNatClampNeg) x3) 22 1)).toNatClampNeg + 4)] S6) (z_hnd []))) (z_hnd [])) none)) none) (z_hnd [])) none)) (z_hnd [])) none) none) := by
  refine zs_run (L' := [some (.ref 22), some (.int l1)]) rfl rfl ?_
  exact zs_aload_n rfl (zs_get1 (x := (S.1 22 1)) rfl rfl (zs_dupr (zs_get0c (x := (S.1 (((S.1 22 1)).toNatClampNeg) 3)) rfl (zs_iconst (v := nI 1) rfl (zs_iadd (zs_putc (S' := ((z_w1 S.1 (((S.1 22 1)).toNatClampNeg) 3 ((S.1 (((S.1 22 1)).toNatClampNeg) 3) + (nI 1))), S.2)) rfl (zs_aload_n rfl (zs_get3 rfl (zs_Vv rfl rfl (Or.inr ⟨Or.inl rfl, _, _, rfl, rfl⟩) (fun S1 => zs_aload_n rfl (zs_get1 (x := (S1.1 22 1)) rfl rfl (zs_get2c (b := (((S1.1 22 1)).toNatClampNeg + 3)) rfl (zs_iload_n rfl (zs_aload_n rfl (zs_iconst (v := nI 1) rfl (zs_bipush (v := nI 60) rfl (zs_Vi rfl rfl (Or.inr ⟨Or.inl rfl, _, _, rfl, rfl⟩) (fun x3 S2 => zs_iasc (S' := ((z_w1 S2.1 (((S1.1 22 1)).toNatClampNeg + 3) ((l1).toNatClampNeg) x3), S2.2)) rfl (zs_aload_n rfl (zs_get1 (x := ((z_w1 S2.1 (((S1.1 22 1)).toNatClampNeg + 3) ((l1).toNatClampNeg) x3) 22 1)) rfl rfl (zs_get2c (b := ((((z_w1 S2.1 (((S1.1 22 1)).toNatClampNeg + 3) ((l1).toNatClampNeg) x3) 22 1)).toNatClampNeg + 4)) rfl (zs_iload_n rfl (zs_aload_n rfl (zs_getstatic (zs_Vi rfl rfl (Or.inr ⟨Or.inl rfl, _, _, rfl, rfl⟩) (fun x5 S4 => zs_if_eq rfl (zs_aload_n rfl (zs_iconst (v := nI 0) rfl (zs_iconst (v := nI 3) rfl (zs_Vi rfl rfl (Or.inr ⟨Or.inl rfl, _, _, rfl, rfl⟩) (fun x7 S6 => zs_goto rfl) (fun _ _ => rfl)))))) (fun _ _ => rfl))))))))) (fun _ _ => rfl))))))))) (fun _ _ => rfl))))))))))
set_option maxRecDepth 100000 in
theorem zq_26_83 (d n z : Nat) (l1 : Int32) (t0 : Int32) (rt1 : Nat) (S : z_St) : z_R26 d (n + 1) 83 z [some (.ref 22), some (.int l1)] [.int t0, .ref rt1] S = z_R26 d n 84 z [some (.ref 22), some (.int l1)] [.int (nI 0), .int t0, .ref rt1] S := by
  refine zs_run (L' := [some (.ref 22), some (.int l1)]) rfl rfl ?_
  exact zs_iconst (v := nI 0) rfl (zs_nil rfl)
set_option maxRecDepth 100000 in
theorem zq_26_84 (d n z : Nat) (l1 : Int32) (t0 : Int32) (t1 : Int32) (rt2 : Nat) (S : z_St) : z_R26 d (n + 1) 84 z [some (.ref 22), some (.int l1)] [.int t0, .int t1, .ref rt2] S = cond (Nat.beq (z_at rt2) 1 && z_ix t1 (z_ln rt2)) (cond (decide (((z_w1 S.1 rt2 ((t1).toNatClampNeg) t0) 22 1) = -1)) none (cond (z_isO 3 ((((z_w1 S.1 rt2 ((t1).toNatClampNeg) t0) 22 1)).toNatClampNeg)) (z_cli (z_ew d 27 [.ref 22, .ref 1005] ((z_w1 S.1 rt2 ((t1).toNatClampNeg) t0), S.2)) (fun x2 S1 => if x2 = 0 then (z_R26 d n 113 z [some (.ref 22), some (.int l1)] [.int l1, .ref ((((z_w1 S.1 rt2 ((t1).toNatClampNeg) t0) 22 1)).toNatClampNeg + 5)] S1) else (z_cli (z_ew d 29 [.ref 22, .int (nI 0), .int (nI 20)] S1) (fun x4 S3 => z_R26 d n 114 z [some (.ref 22), some (.int l1)] [.int x4, .int l1, .ref ((((z_w1 S.1 rt2 ((t1).toNatClampNeg) t0) 22 1)).toNatClampNeg + 5)] S3) (z_hnd []))) (z_hnd [])) none)) none := by
  refine zs_run (L' := [some (.ref 22), some (.int l1)]) rfl rfl ?_
  exact zs_iasc (S' := ((z_w1 S.1 rt2 ((t1).toNatClampNeg) t0), S.2)) rfl (zs_aload_n rfl (zs_get1 (x := ((z_w1 S.1 rt2 ((t1).toNatClampNeg) t0) 22 1)) rfl rfl (zs_get2c (b := ((((z_w1 S.1 rt2 ((t1).toNatClampNeg) t0) 22 1)).toNatClampNeg + 5)) rfl (zs_iload_n rfl (zs_aload_n rfl (zs_getstatic (zs_Vi rfl rfl (Or.inr ⟨Or.inl rfl, _, _, rfl, rfl⟩) (fun x2 S1 => zs_if_eq rfl (zs_aload_n rfl (zs_iconst (v := nI 0) rfl (zs_bipush (v := nI 20) rfl (zs_Vi rfl rfl (Or.inr ⟨Or.inl rfl, _, _, rfl, rfl⟩) (fun x4 S3 => zs_goto rfl) (fun _ _ => rfl)))))) (fun _ _ => rfl))))))))
set_option maxRecDepth 100000 in
theorem zq_26_113 (d n z : Nat) (l1 : Int32) (t0 : Int32) (rt1 : Nat) (S : z_St) : z_R26 d (n + 1) 113 z [some (.ref 22), some (.int l1)] [.int t0, .ref rt1] S = z_R26 d n 114 z [some (.ref 22), some (.int l1)] [.int (nI 0), .int t0, .ref rt1] S := by
  refine zs_run (L' := [some (.ref 22), some (.int l1)]) rfl rfl ?_
  exact zs_iconst (v := nI 0) rfl (zs_nil rfl)
set_option maxRecDepth 100000 in
theorem zq_26_114 (d n z : Nat) (l1 : Int32) (t0 : Int32) (t1 : Int32) (rt2 : Nat) (S : z_St) : z_R26 d (n + 1) 114 z [some (.ref 22), some (.int l1)] [.int t0, .int t1, .ref rt2] S = cond (Nat.beq (z_at rt2) 1 && z_ix t1 (z_ln rt2)) (cond (decide (((z_w1 S.1 rt2 ((t1).toNatClampNeg) t0) 22 1) = -1)) none (cond (z_isO 3 ((((z_w1 S.1 rt2 ((t1).toNatClampNeg) t0) 22 1)).toNatClampNeg)) (z_cli (z_ew d 27 [.ref 22, .ref 1006] ((z_w1 S.1 rt2 ((t1).toNatClampNeg) t0), S.2)) (fun x2 S1 => if x2 = 0 then (z_R26 d n 137 z [some (.ref 22), some (.int l1)] [.int l1, .ref ((((z_w1 S.1 rt2 ((t1).toNatClampNeg) t0) 22 1)).toNatClampNeg + 6)] S1) else (z_R26 d n 138 z [some (.ref 22), some (.int l1)] [.int (nI 1), .int l1, .ref ((((z_w1 S.1 rt2 ((t1).toNatClampNeg) t0) 22 1)).toNatClampNeg + 6)] S1)) (z_hnd [])) none)) none := by
  refine zs_run (L' := [some (.ref 22), some (.int l1)]) rfl rfl ?_
  exact zs_iasc (S' := ((z_w1 S.1 rt2 ((t1).toNatClampNeg) t0), S.2)) rfl (zs_aload_n rfl (zs_get1 (x := ((z_w1 S.1 rt2 ((t1).toNatClampNeg) t0) 22 1)) rfl rfl (zs_get2c (b := ((((z_w1 S.1 rt2 ((t1).toNatClampNeg) t0) 22 1)).toNatClampNeg + 6)) rfl (zs_iload_n rfl (zs_aload_n rfl (zs_getstatic (zs_Vi rfl rfl (Or.inr ⟨Or.inl rfl, _, _, rfl, rfl⟩) (fun x2 S1 => zs_if_eq rfl (zs_iconst (v := nI 1) rfl (zs_goto rfl))) (fun _ _ => rfl))))))))
set_option maxRecDepth 100000 in
theorem zq_26_137 (d n z : Nat) (l1 : Int32) (t0 : Int32) (rt1 : Nat) (S : z_St) : z_R26 d (n + 1) 137 z [some (.ref 22), some (.int l1)] [.int t0, .ref rt1] S = z_R26 d n 138 z [some (.ref 22), some (.int l1)] [.int (nI 0), .int t0, .ref rt1] S := by
  refine zs_run (L' := [some (.ref 22), some (.int l1)]) rfl rfl ?_
  exact zs_iconst (v := nI 0) rfl (zs_nil rfl)
set_option maxRecDepth 100000 in
theorem zq_26_138 (d n z : Nat) (l1 : Int32) (t0 : Int32) (t1 : Int32) (rt2 : Nat) (S : z_St) : z_R26 d (n + 1) 138 z [some (.ref 22), some (.int l1)] [.int t0, .int t1, .ref rt2] S = cond (Nat.beq (z_at rt2) 1 && z_ix t1 (z_ln rt2)) (cond (decide (((z_w1 S.1 rt2 ((t1).toNatClampNeg) t0) 22 1) = -1)) none (cond (z_isO 3 ((((z_w1 S.1 rt2 ((t1).toNatClampNeg) t0) 22 1)).toNatClampNeg)) (cond (decide (((z_w1 S.1 rt2 ((t1).toNatClampNeg) t0) 22 1) = -1)) none (cond (z_isO 3 ((((z_w1 S.1 rt2 ((t1).toNatClampNeg) t0) 22 1)).toNatClampNeg)) (cond (Nat.beq (z_at ((((z_w1 S.1 rt2 ((t1).toNatClampNeg) t0) 22 1)).toNatClampNeg + 7)) 1 && z_ix l1 (z_ln ((((z_w1 S.1 rt2 ((t1).toNatClampNeg) t0) 22 1)).toNatClampNeg + 7))) (z_cli (z_ew d 27 [.ref 22, .ref 1007] ((z_w1 (z_w1 S.1 rt2 ((t1).toNatClampNeg) t0) ((((z_w1 S.1 rt2 ((t1).toNatClampNeg) t0) 22 1)).toNatClampNeg + 7) ((l1).toNatClampNeg) ((z_w1 S.1 rt2 ((t1).toNatClampNeg) t0) ((((z_w1 S.1 rt2 ((t1).toNatClampNeg) t0) 22 1)).toNatClampNeg) 11)), S.2)) (fun x2 S1 => if x2 = 0 then (z_R26 d n 171 z [some (.ref 22), some (.int l1)] [] S1) else (z_clv (z_ew d 30 [.ref 22, .int (nI 0), .int (nI 0)] S1) (fun S3 => z_R26 d n 171 z [some (.ref 22), some (.int l1)] [] S3) (z_hnd []))) (z_hnd [])) none) none)) none)) none := by
  refine zs_run (L' := [some (.ref 22), some (.int l1)]) rfl rfl ?_
  exact zs_iasc (S' := ((z_w1 S.1 rt2 ((t1).toNatClampNeg) t0), S.2)) rfl (zs_aload_n rfl (zs_get1 (x := ((z_w1 S.1 rt2 ((t1).toNatClampNeg) t0) 22 1)) rfl rfl (zs_get2c (b := ((((z_w1 S.1 rt2 ((t1).toNatClampNeg) t0) 22 1)).toNatClampNeg + 7)) rfl (zs_iload_n rfl (zs_aload_n rfl (zs_get1 (x := ((z_w1 S.1 rt2 ((t1).toNatClampNeg) t0) 22 1)) rfl rfl (zs_get0c (x := ((z_w1 S.1 rt2 ((t1).toNatClampNeg) t0) ((((z_w1 S.1 rt2 ((t1).toNatClampNeg) t0) 22 1)).toNatClampNeg) 11)) rfl (zs_iasc (S' := ((z_w1 (z_w1 S.1 rt2 ((t1).toNatClampNeg) t0) ((((z_w1 S.1 rt2 ((t1).toNatClampNeg) t0) 22 1)).toNatClampNeg + 7) ((l1).toNatClampNeg) ((z_w1 S.1 rt2 ((t1).toNatClampNeg) t0) ((((z_w1 S.1 rt2 ((t1).toNatClampNeg) t0) 22 1)).toNatClampNeg) 11)), S.2)) rfl (zs_aload_n rfl (zs_getstatic (zs_Vi rfl rfl (Or.inr ⟨Or.inl rfl, _, _, rfl, rfl⟩) (fun x2 S1 => zs_if_eq rfl (zs_aload_n rfl (zs_iconst (v := nI 0) rfl (zs_iconst (v := nI 0) rfl (zs_Vv rfl rfl (Or.inr ⟨Or.inl rfl, _, _, rfl, rfl⟩) (fun S3 => zs_nil rfl) (fun _ _ => rfl)))))) (fun _ _ => rfl))))))))))))
set_option maxRecDepth 100000 in
theorem zq_26_171 (d n z : Nat) (l1 : Int32) (S : z_St) : z_R26 d (n + 1) 171 z [some (.ref 22), some (.int l1)] [] S = cond (decide ((S.1 22 1) = -1)) none (cond (z_isO 3 (((S.1 22 1)).toNatClampNeg)) (cond (decide ((S.1 22 1) = -1)) none (cond (z_isO 3 (((S.1 22 1)).toNatClampNeg)) (cond (Nat.beq (z_at (((S.1 22 1)).toNatClampNeg + 8)) 1 && z_ix l1 (z_ln (((S.1 22 1)).toNatClampNeg + 8))) (z_clv (z_ew d 28 [.ref 22, .int (nI 59)] ((z_w1 S.1 (((S.1 22 1)).toNatClampNeg + 8) ((l1).toNatClampNeg) (S.1 (((S.1 22 1)).toNatClampNeg) 11)), S.2)) (fun S1 => some (.inl none, S1)) (z_hnd [])) none) none)) none) := by
  refine zs_run (L' := [some (.ref 22), some (.int l1)]) rfl rfl ?_
  exact zs_aload_n rfl (zs_get1 (x := (S.1 22 1)) rfl rfl (zs_get2c (b := (((S.1 22 1)).toNatClampNeg + 8)) rfl (zs_iload_n rfl (zs_aload_n rfl (zs_get1 (x := (S.1 22 1)) rfl rfl (zs_get0c (x := (S.1 (((S.1 22 1)).toNatClampNeg) 11)) rfl (zs_iasc (S' := ((z_w1 S.1 (((S.1 22 1)).toNatClampNeg + 8) ((l1).toNatClampNeg) (S.1 (((S.1 22 1)).toNatClampNeg) 11)), S.2)) rfl (zs_aload_n rfl (zs_bipush (v := nI 59) rfl (zs_Vv rfl rfl (Or.inr ⟨Or.inl rfl, _, _, rfl, rfl⟩) (fun S1 => zs_ret rfl) (fun _ _ => rfl)))))))))))
/-- SlipRoom$Parser.passWord(LSlipRoom$Word;)Z -/
noncomputable def z_R27 (d : Nat) : Nat → z_K := z_run false (some .boolean) [] (z_ew d) z_b27
theorem ze_27 (d : Nat) (as : List Value) (S : z_St) (h : Nat.ble (z_sl as).length 3 = true) : z_ew (d + 1) 27 as S = z_R27 d z_fuel 0 0 (z_in 3 as) [] S := zs_ew h
set_option maxRecDepth 100000 in
theorem zq_27_0 (d n z : Nat) (r1 : Nat) (d2 : Option Value) (S : z_St) : z_R27 d (n + 1) 0 z [some (.ref 22), some (.ref r1), d2] [] S = cond (decide ((S.1 23 6) = -1)) none (cond (Nat.ble 1000 (((S.1 23 6)).toNatClampNeg) && Nat.blt (((S.1 23 6)).toNatClampNeg) 1017 && Nat.ble 1000 r1 && Nat.blt r1 1017) (if (((S.1 23 6)).toNatClampNeg) = r1 then (z_R27 d n 16 z [some (.ref 22), some (.ref r1), none] [.int (nI 1)] S) else (z_R27 d n 15 z [some (.ref 22), some (.ref r1), none] [] S)) none) := by
  refine zs_run (L' := [some (.ref 22), some (.ref r1), none]) rfl rfl ?_
  exact zs_aload_n rfl (zs_get3 rfl (zs_get1 (x := (S.1 23 6)) rfl rfl (zs_aload_n rfl (zs_ac_ne rfl (zs_iconst (v := nI 1) rfl (zs_goto rfl))))))
set_option maxRecDepth 100000 in
theorem zq_27_15 (d n z : Nat)  (d1 d2 : Option Value) (S : z_St) : z_R27 d (n + 1) 15 z [some (.ref 22), d1, d2] [] S = z_R27 d n 16 z [some (.ref 22), none, none] [.int (nI 0)] S := by
  refine zs_run (L' := [some (.ref 22), none, none]) rfl rfl ?_
  exact zs_iconst (v := nI 0) rfl (zs_nil rfl)
set_option maxRecDepth 100000 in
theorem zq_27_16 (d n z : Nat) (t0 : Int32) (d1 d2 : Option Value) (S : z_St) : z_R27 d (n + 1) 16 z [some (.ref 22), d1, d2] [.int t0] S = if t0 = 0 then (z_R27 d n 28 z [some (.ref 22), none, some (.int t0)] [] S) else (z_clv (z_ew d 61 [.ref 23] S) (fun S1 => z_R27 d n 28 z [some (.ref 22), none, some (.int t0)] [] S1) (z_hnd [])) := by
  refine zs_run (L' := [some (.ref 22), none, none]) rfl rfl ?_
  exact zs_istore_n (L' := [some (.ref 22), none, some (.int t0)]) rfl rfl (zs_iload_n rfl (zs_if_eq rfl (zs_aload_n rfl (zs_get3 rfl (zs_Vv rfl rfl (Or.inr ⟨Or.inl rfl, _, _, rfl, rfl⟩) (fun S1 => zs_nil rfl) (fun _ _ => rfl))))))
set_option maxRecDepth 100000 in
theorem zq_27_28 (d n z : Nat) (l2 : Int32) (d0 d1 : Option Value) (S : z_St) : z_R27 d (n + 1) 28 z [d0, d1, some (.int l2)] [] S = cond (z_rb (some .boolean) l2) (some (.inl (some (.int l2)), S)) none := by
  refine zs_run (L' := [none, none, some (.int l2)]) rfl rfl ?_
  exact zs_iload_n rfl (zs_iretc)
/-- SlipRoom$Parser.passSign(I)V -/
noncomputable def z_R28 (d : Nat) : Nat → z_K := z_run false none [] (z_ew d) z_b28
theorem ze_28 (d : Nat) (as : List Value) (S : z_St) (h : Nat.ble (z_sl as).length 2 = true) : z_ew (d + 1) 28 as S = z_R28 d z_fuel 0 0 (z_in 2 as) [] S := zs_ew h
set_option maxRecDepth 100000 in
theorem zq_28_0 (d n z : Nat) (l1 : Int32) (S : z_St) : z_R28 d (n + 1) 0 z [some (.ref 22), some (.int l1)] [] S = if (S.1 23 3) = l1 then (z_clv (z_ew d 61 [.ref 23] S) (fun S1 => z_R28 d n 26 z [some (.ref 22), some (.int l1)] [] S1) (z_hnd [])) else (z_R28 d n 21 z [some (.ref 22), some (.int l1)] [] S) := by
  refine zs_run (L' := [some (.ref 22), some (.int l1)]) rfl rfl ?_
  exact zs_aload_n rfl (zs_get3 rfl (zs_get0 (x := (S.1 23 3)) rfl rfl (zs_iload_n rfl (zs_ic_ne rfl (zs_aload_n rfl (zs_get3 rfl (zs_Vv rfl rfl (Or.inr ⟨Or.inl rfl, _, _, rfl, rfl⟩) (fun S1 => zs_goto rfl) (fun _ _ => rfl))))))))
set_option maxRecDepth 100000 in
theorem zq_28_21 (d n z : Nat)  (d1 : Option Value) (S : z_St) : z_R28 d (n + 1) 21 z [some (.ref 22), d1] [] S = z_clv (z_ew d 24 [.ref 22, .int (nI 1)] S) (fun S1 => z_R28 d n 26 z [some (.ref 22), none] [] S1) (z_hnd []) := by
  refine zs_run (L' := [some (.ref 22), none]) rfl rfl ?_
  exact zs_aload_n rfl (zs_iconst (v := nI 1) rfl (zs_Vv rfl rfl (Or.inr ⟨Or.inl rfl, _, _, rfl, rfl⟩) (fun S1 => zs_nil rfl) (fun _ _ => rfl)))
set_option maxRecDepth 100000 in
theorem zq_28_26 (d n z : Nat)  (d0 d1 : Option Value) (S : z_St) : z_R28 d (n + 1) 26 z [d0, d1] [] S = some (.inl none, S) := by
  refine zs_run (L' := [none, none]) rfl rfl ?_
  exact zs_ret rfl
/-- SlipRoom$Parser.takeNumber(II)I -/
noncomputable def z_R29 (d : Nat) : Nat → z_K := z_run false (some .int) [] (z_ew d) z_b29
theorem ze_29 (d : Nat) (as : List Value) (S : z_St) (h : Nat.ble (z_sl as).length 4 = true) : z_ew (d + 1) 29 as S = z_R29 d z_fuel 0 0 (z_in 4 as) [] S := zs_ew h
set_option maxRecDepth 100000 in
theorem zq_29_0 (d n z : Nat) (l1 : Int32) (l2 : Int32) (d3 : Option Value) (S : z_St) : z_R29 d (n + 1) 0 z [some (.ref 22), some (.int l1), some (.int l2), d3] [] S = if (S.1 23 3) = (nI 1) then (z_R29 d n 27 z [some (.ref 22), some (.int l1), some (.int l2), some (.int (S.1 23 5))] [] S) else (z_clv (z_ew d 24 [.ref 22, .int (nI 1)] S) (fun S1 => z_R29 d n 52 z [some (.ref 22), some (.int l1), some (.int l2), some (.int (S.1 23 5))] [] S1) (z_hnd [])) := by
  refine zs_run (L' := [some (.ref 22), some (.int l1), some (.int l2), none]) rfl rfl ?_
  exact zs_aload_n rfl (zs_get3 rfl (zs_get0 (x := (S.1 23 5)) rfl rfl (zs_istore_n (L' := [some (.ref 22), some (.int l1), some (.int l2), some (.int (S.1 23 5))]) rfl rfl (zs_aload_n rfl (zs_get3 rfl (zs_get0 (x := (S.1 23 3)) rfl rfl (zs_iconst (v := nI 1) rfl (zs_ic_eq rfl (zs_aload_n rfl (zs_iconst (v := nI 1) rfl (zs_Vv rfl rfl (Or.inr ⟨Or.inl rfl, _, _, rfl, rfl⟩) (fun S1 => zs_goto rfl) (fun _ _ => rfl))))))))))))
set_option maxRecDepth 100000 in
theorem zq_29_27 (d n z : Nat) (l1 : Int32) (l2 : Int32) (l3 : Int32) (S : z_St) : z_R29 d (n + 1) 27 z [some (.ref 22), some (.int l1), some (.int l2), some (.int l3)] [] S = if l3 < l1 then (z_R29 d n 37 z [some (.ref 22), some (.int l1), some (.int l2), some (.int l3)] [] S) else (if l3 ≤ l2 then (z_R29 d n 45 z [some (.ref 22), some (.int l1), some (.int l2), some (.int l3)] [] S) else (z_R29 d n 37 z [some (.ref 22), some (.int l1), some (.int l2), some (.int l3)] [] S)) := by
  refine zs_run (L' := [some (.ref 22), some (.int l1), some (.int l2), some (.int l3)]) rfl rfl ?_
  exact zs_iload_n rfl (zs_iload_n rfl (zs_ic_lt rfl (zs_iload_n rfl (zs_iload_n rfl (zs_ic_le rfl (zs_nil rfl))))))
set_option maxRecDepth 100000 in
theorem zq_29_37 (d n z : Nat) (l3 : Int32) (d1 d2 : Option Value) (S : z_St) : z_R29 d (n + 1) 37 z [some (.ref 22), d1, d2, some (.int l3)] [] S = z_clv (z_ew d 24 [.ref 22, .int (nI 2)] S) (fun S1 => z_R29 d n 52 z [some (.ref 22), none, none, some (.int l3)] [] S1) (z_hnd []) := by
  refine zs_run (L' := [some (.ref 22), none, none, some (.int l3)]) rfl rfl ?_
  exact zs_aload_n rfl (zs_iconst (v := nI 2) rfl (zs_Vv rfl rfl (Or.inr ⟨Or.inl rfl, _, _, rfl, rfl⟩) (fun S1 => zs_goto rfl) (fun _ _ => rfl)))
set_option maxRecDepth 100000 in
theorem zq_29_45 (d n z : Nat) (l3 : Int32) (d1 d2 : Option Value) (S : z_St) : z_R29 d (n + 1) 45 z [some (.ref 22), d1, d2, some (.int l3)] [] S = z_clv (z_ew d 61 [.ref 23] S) (fun S1 => z_R29 d n 52 z [some (.ref 22), none, none, some (.int l3)] [] S1) (z_hnd []) := by
  refine zs_run (L' := [some (.ref 22), none, none, some (.int l3)]) rfl rfl ?_
  exact zs_aload_n rfl (zs_get3 rfl (zs_Vv rfl rfl (Or.inr ⟨Or.inl rfl, _, _, rfl, rfl⟩) (fun S1 => zs_nil rfl) (fun _ _ => rfl)))
set_option maxRecDepth 100000 in
theorem zq_29_52 (d n z : Nat) (l3 : Int32) (d0 d1 d2 : Option Value) (S : z_St) : z_R29 d (n + 1) 52 z [d0, d1, d2, some (.int l3)] [] S = some (.inl (some (.int l3)), S) := by
  refine zs_run (L' := [none, none, none, some (.int l3)]) rfl rfl ?_
  exact zs_iload_n rfl (zs_iret rfl)
/-- SlipRoom$Parser.level(II)V -/
noncomputable def z_R30 (d : Nat) : Nat → z_K := z_run false none [] (z_ew d) z_b30
theorem ze_30 (d : Nat) (as : List Value) (S : z_St) (h : Nat.ble (z_sl as).length 7 = true) : z_ew (d + 1) 30 as S = z_R30 d z_fuel 0 0 (z_in 7 as) [] S := zs_ew h
set_option maxRecDepth 100000 in
theorem zq_30_0 (d n z : Nat) (l1 : Int32) (l2 : Int32) (d3 d4 d5 d6 : Option Value) (S : z_St) : z_R30 d (n + 1) 0 z [some (.ref 22), some (.int l1), some (.int l2), d3, d4, d5, d6] [] S = if l1 = (nI 2) then (z_cli (z_ew d 33 [.ref 22] S) (fun x2 S1 => z_R30 d n 13 z [some (.ref 22), some (.int l1), some (.int l2), none, none, none, none] [.int x2] S1) (z_hnd [])) else (z_R30 d n 12 z [some (.ref 22), some (.int l1), some (.int l2), none, none, none, none] [] S) := by
  refine zs_run (L' := [some (.ref 22), some (.int l1), some (.int l2), none, none, none, none]) rfl rfl ?_
  exact zs_iload_n rfl (zs_iconst (v := nI 2) rfl (zs_ic_ne rfl (zs_aload_n rfl (zs_Vi rfl rfl (Or.inr ⟨Or.inl rfl, _, _, rfl, rfl⟩) (fun x2 S1 => zs_goto rfl) (fun _ _ => rfl)))))
set_option maxRecDepth 100000 in
theorem zq_30_12 (d n z : Nat) (l1 : Int32) (l2 : Int32) (d3 d4 d5 d6 : Option Value) (S : z_St) : z_R30 d (n + 1) 12 z [some (.ref 22), some (.int l1), some (.int l2), d3, d4, d5, d6] [] S = z_R30 d n 13 z [some (.ref 22), some (.int l1), some (.int l2), none, none, none, none] [.int (nI 0)] S := by
  refine zs_run (L' := [some (.ref 22), some (.int l1), some (.int l2), none, none, none, none]) rfl rfl ?_
  exact zs_iconst (v := nI 0) rfl (zs_nil rfl)
set_option maxRecDepth 100000 in
theorem zq_30_13 (d n z : Nat) (l1 : Int32) (l2 : Int32) (t0 : Int32) (d3 d4 d5 d6 : Option Value) (S : z_St) : z_R30 d (n + 1) 13 z [some (.ref 22), some (.int l1), some (.int l2), d3, d4, d5, d6] [.int t0] S = z_clv (z_ew d 31 [.ref 22, .int l1, .int l2] S) (fun S1 => if l1 = (nI 2) then (z_R30 d n 32 z [some (.ref 22), some (.int l1), some (.int l2), some (.int t0), none, none, none] [.int (nI 1)] S1) else (z_R30 d n 29 z [some (.ref 22), some (.int l1), some (.int l2), some (.int t0), none, none, none] [] S1)) (z_hnd []) := by
  refine zs_run (L' := [some (.ref 22), some (.int l1), some (.int l2), none, none, none, none]) rfl rfl ?_
  exact zs_istore_n (L' := [some (.ref 22), some (.int l1), some (.int l2), some (.int t0), none, none, none]) rfl rfl (zs_aload_n rfl (zs_iload_n rfl (zs_iload_n rfl (zs_Vv rfl rfl (Or.inr ⟨Or.inl rfl, _, _, rfl, rfl⟩) (fun S1 => zs_iload_n rfl (zs_iconst (v := nI 2) rfl (zs_ic_ne rfl (zs_iconst (v := nI 1) rfl (zs_goto rfl))))) (fun _ _ => rfl)))))
set_option maxRecDepth 100000 in
theorem zq_30_29 (d n z : Nat) (l1 : Int32) (l2 : Int32) (l3 : Int32) (d4 d5 d6 : Option Value) (S : z_St) : z_R30 d (n + 1) 29 z [some (.ref 22), some (.int l1), some (.int l2), some (.int l3), d4, d5, d6] [] S = z_R30 d n 32 z [some (.ref 22), some (.int l1), some (.int l2), some (.int l3), none, none, none] [.int (nI 700)] S := by
  refine zs_run (L' := [some (.ref 22), some (.int l1), some (.int l2), some (.int l3), none, none, none]) rfl rfl ?_
  exact zs_sipush (v := nI 700) rfl (zs_nil rfl)
set_option maxRecDepth 100000 in
theorem zq_30_32 (d n z : Nat) (l1 : Int32) (l2 : Int32) (l3 : Int32) (t0 : Int32) (d4 d5 d6 : Option Value) (S : z_St) : z_R30 d (n + 1) 32 z [some (.ref 22), some (.int l1), some (.int l2), some (.int l3), d4, d5, d6] [.int t0] S = z_R30 d n 37 z [some (.ref 22), some (.int l1), some (.int l2), some (.int l3), some (.int t0), some (.int (nI 0)), none] [] S := by
  refine zs_run (L' := [some (.ref 22), some (.int l1), some (.int l2), some (.int l3), none, none, none]) rfl rfl ?_
  exact zs_istore (L' := [some (.ref 22), some (.int l1), some (.int l2), some (.int l3), some (.int t0), none, none]) rfl rfl (zs_iconst (v := nI 0) rfl (zs_istore (L' := [some (.ref 22), some (.int l1), some (.int l2), some (.int l3), some (.int t0), some (.int (nI 0)), none]) rfl rfl (zs_nil rfl)))
set_option maxRecDepth 100000 in
theorem zq_30_37 (d n z : Nat) (l1 : Int32) (l2 : Int32) (l3 : Int32) (l4 : Int32) (l5 : Int32) (d6 : Option Value) (S : z_St) : z_R30 d (n + 1) 37 z [some (.ref 22), some (.int l1), some (.int l2), some (.int l3), some (.int l4), some (.int l5), d6] [] S = if l4 ≤ l5 then (z_R30 d n 93 z [some (.ref 22), some (.int l1), some (.int l2), some (.int l3), some (.int l4), some (.int l5), none] [] S) else (z_cli (z_ew d 62 [.ref 23] S) (fun x2 S1 => if x2 = l1 then (z_cli (z_ew d 63 [.ref 23] S1) (fun x4 S3 => z_clv (z_ew d 61 [.ref 23] S3) (fun S5 => z_clv (z_ew d 31 [.ref 22, .int l1, .int l2] S5) (fun S6 => cond (decide ((S6.1 22 1) = -1)) none (cond (z_isO 3 (((S6.1 22 1)).toNatClampNeg)) (z_clv (z_ew d 36 [.ref (((S6.1 22 1)).toNatClampNeg), .int (-x4)] S6) (fun S7 => z_R30 d n 37 z [some (.ref 22), some (.int l1), some (.int l2), some (.int l3), some (.int l4), some (.int (l5 + (nI 1))), some (.int x4)] [] S7) (z_hnd [])) none)) (z_hnd [])) (z_hnd [])) (z_hnd [])) else (z_R30 d n 93 z [some (.ref 22), some (.int l1), some (.int l2), some (.int l3), some (.int l4), some (.int l5), none] [] S1)) (z_hnd [])) := by
  refine zs_run (L' := [some (.ref 22), some (.int l1), some (.int l2), some (.int l3), some (.int l4), some (.int l5), none]) rfl rfl ?_
  exact zs_iload rfl (zs_iload rfl (zs_ic_ge rfl (zs_aload_n rfl (zs_get3 rfl (zs_Vi rfl rfl (Or.inr ⟨Or.inl rfl, _, _, rfl, rfl⟩) (fun x2 S1 => zs_iload_n rfl (zs_ic_ne rfl (zs_aload_n rfl (zs_get3 rfl (zs_Vi rfl rfl (Or.inr ⟨Or.inl rfl, _, _, rfl, rfl⟩) (fun x4 S3 => zs_istore (L' := [some (.ref 22), some (.int l1), some (.int l2), some (.int l3), some (.int l4), some (.int l5), some (.int x4)]) rfl rfl (zs_aload_n rfl (zs_get3 rfl (zs_Vv rfl rfl (Or.inr ⟨Or.inl rfl, _, _, rfl, rfl⟩) (fun S5 => zs_aload_n rfl (zs_iload_n rfl (zs_iload_n rfl (zs_Vv rfl rfl (Or.inr ⟨Or.inl rfl, _, _, rfl, rfl⟩) (fun S6 => zs_aload_n rfl (zs_get1 (x := (S6.1 22 1)) rfl rfl (zs_iload rfl (zs_ineg (zs_Vvc rfl rfl (Or.inl rfl) (fun S7 => zs_iinc (v := nI 1) (L' := [some (.ref 22), some (.int l1), some (.int l2), some (.int l3), some (.int l4), some (.int (l5 + (nI 1))), some (.int x4)]) rfl rfl rfl rfl (zs_goto rfl)) (fun _ _ => rfl)))))) (fun _ _ => rfl))))) (fun _ _ => rfl))))) (fun _ _ => rfl)))))) (fun _ _ => rfl))))))
set_option maxRecDepth 100000 in
theorem zq_30_93 (d n z : Nat) (l3 : Int32) (d1 d2 d4 d5 d6 : Option Value) (S : z_St) : z_R30 d (n + 1) 93 z [some (.ref 22), d1, d2, some (.int l3), d4, d5, d6] [] S = z_R30 d n 96 z [some (.ref 22), none, none, some (.int l3), none, some (.int (nI 0)), none] [] S := by
  refine zs_run (L' := [some (.ref 22), none, none, some (.int l3), none, none, none]) rfl rfl ?_
  exact zs_iconst (v := nI 0) rfl (zs_istore (L' := [some (.ref 22), none, none, some (.int l3), none, some (.int (nI 0)), none]) rfl rfl (zs_nil rfl))
set_option maxRecDepth 100000 in
theorem zq_30_96 (d n z : Nat) (l3 : Int32) (l5 : Int32) (d1 d2 d4 d6 : Option Value) (S : z_St) : z_R30 d (n + 1) 96 z [some (.ref 22), d1, d2, some (.int l3), d4, some (.int l5), d6] [] S = if l3 ≤ l5 then (z_R30 d n 117 z [some (.ref 22), none, none, some (.int l3), none, some (.int l5), none] [] S) else (cond (decide ((S.1 22 1) = -1)) none (cond (z_isO 3 (((S.1 22 1)).toNatClampNeg)) (z_clv (z_ew d 36 [.ref (((S.1 22 1)).toNatClampNeg), .int (-nI 33)] S) (fun S1 => z_R30 d n 96 z [some (.ref 22), none, none, some (.int l3), none, some (.int (l5 + (nI 1))), none] [] S1) (z_hnd [])) none)) := by
  refine zs_run (L' := [some (.ref 22), none, none, some (.int l3), none, some (.int l5), none]) rfl rfl ?_
  exact zs_iload rfl (zs_iload_n rfl (zs_ic_ge rfl (zs_aload_n rfl (zs_get1 (x := (S.1 22 1)) rfl rfl (zs_bipush (v := (-nI 33)) rfl (zs_Vvc rfl rfl (Or.inl rfl) (fun S1 => zs_iinc (v := nI 1) (L' := [some (.ref 22), none, none, some (.int l3), none, some (.int (l5 + (nI 1))), none]) rfl rfl rfl rfl (zs_goto rfl)) (fun _ _ => rfl)))))))
set_option maxRecDepth 100000 in
theorem zq_30_117 (d n z : Nat)  (d0 d1 d2 d3 d4 d5 d6 : Option Value) (S : z_St) : z_R30 d (n + 1) 117 z [d0, d1, d2, d3, d4, d5, d6] [] S = some (.inl none, S) := by
  refine zs_run (L' := [none, none, none, none, none, none, none]) rfl rfl ?_
  exact zs_ret rfl
/-- SlipRoom$Parser.operand(II)V -/
noncomputable def z_R31 (d : Nat) : Nat → z_K := z_run false none [] (z_ew d) z_b31
theorem ze_31 (d : Nat) (as : List Value) (S : z_St) (h : Nat.ble (z_sl as).length 3 = true) : z_ew (d + 1) 31 as S = z_R31 d z_fuel 0 0 (z_in 3 as) [] S := zs_ew h
set_option maxRecDepth 100000 in
theorem zq_31_0 (d n z : Nat) (l1 : Int32) (l2 : Int32) (S : z_St) : z_R31 d (n + 1) 0 z [some (.ref 22), some (.int l1), some (.int l2)] [] S = if (nI 4) ≤ l1 then (z_R31 d n 16 z [some (.ref 22), some (.int l1), some (.int l2)] [] S) else (z_clv (z_ew d 30 [.ref 22, .int (l1 + (nI 1)), .int l2] S) (fun S1 => z_R31 d n 55 z [some (.ref 22), some (.int l1), some (.int l2)] [] S1) (z_hnd [])) := by
  refine zs_run (L' := [some (.ref 22), some (.int l1), some (.int l2)]) rfl rfl ?_
  exact zs_iload_n rfl (zs_iconst (v := nI 4) rfl (zs_ic_ge rfl (zs_aload_n rfl (zs_iload_n rfl (zs_iconst (v := nI 1) rfl (zs_iadd (zs_iload_n rfl (zs_Vv rfl rfl (Or.inr ⟨Or.inl rfl, _, _, rfl, rfl⟩) (fun S1 => zs_goto rfl) (fun _ _ => rfl)))))))))
set_option maxRecDepth 100000 in
theorem zq_31_16 (d n z : Nat) (l2 : Int32) (d1 : Option Value) (S : z_St) : z_R31 d (n + 1) 16 z [some (.ref 22), d1, some (.int l2)] [] S = if (S.1 23 3) = (nI 40) then (z_clv (z_ew d 61 [.ref 23] S) (fun S1 => z_clv (z_ew d 32 [.ref 22, .int (l2 + (nI 1))] S1) (fun S2 => z_clv (z_ew d 28 [.ref 22, .int (nI 41)] S2) (fun S3 => z_R31 d n 55 z [some (.ref 22), none, some (.int l2)] [] S3) (z_hnd [])) (z_hnd [])) (z_hnd [])) else (z_R31 d n 51 z [some (.ref 22), none, some (.int l2)] [] S) := by
  refine zs_run (L' := [some (.ref 22), none, some (.int l2)]) rfl rfl ?_
  exact zs_aload_n rfl (zs_get3 rfl (zs_get0 (x := (S.1 23 3)) rfl rfl (zs_bipush (v := nI 40) rfl (zs_ic_ne rfl (zs_aload_n rfl (zs_get3 rfl (zs_Vv rfl rfl (Or.inr ⟨Or.inl rfl, _, _, rfl, rfl⟩) (fun S1 => zs_aload_n rfl (zs_iload_n rfl (zs_iconst (v := nI 1) rfl (zs_iadd (zs_Vv rfl rfl (Or.inr ⟨Or.inl rfl, _, _, rfl, rfl⟩) (fun S2 => zs_aload_n rfl (zs_bipush (v := nI 41) rfl (zs_Vv rfl rfl (Or.inr ⟨Or.inl rfl, _, _, rfl, rfl⟩) (fun S3 => zs_goto rfl) (fun _ _ => rfl)))) (fun _ _ => rfl)))))) (fun _ _ => rfl))))))))
set_option maxRecDepth 100000 in
theorem zq_31_51 (d n z : Nat)  (d1 d2 : Option Value) (S : z_St) : z_R31 d (n + 1) 51 z [some (.ref 22), d1, d2] [] S = z_clv (z_ew d 34 [.ref 22] S) (fun S1 => z_R31 d n 55 z [some (.ref 22), none, none] [] S1) (z_hnd []) := by
  refine zs_run (L' := [some (.ref 22), none, none]) rfl rfl ?_
  exact zs_aload_n rfl (zs_Vv rfl rfl (Or.inr ⟨Or.inl rfl, _, _, rfl, rfl⟩) (fun S1 => zs_nil rfl) (fun _ _ => rfl))
set_option maxRecDepth 100000 in
theorem zq_31_55 (d n z : Nat)  (d0 d1 d2 : Option Value) (S : z_St) : z_R31 d (n + 1) 55 z [d0, d1, d2] [] S = some (.inl none, S) := by
  refine zs_run (L' := [none, none, none]) rfl rfl ?_
  exact zs_ret rfl
/-- SlipRoom$Parser.exprWithin(I)V -/
noncomputable def z_R32 (d : Nat) : Nat → z_K := z_run false none [] (z_ew d) z_b32
theorem ze_32 (d : Nat) (as : List Value) (S : z_St) (h : Nat.ble (z_sl as).length 2 = true) : z_ew (d + 1) 32 as S = z_R32 d z_fuel 0 0 (z_in 2 as) [] S := zs_ew h
set_option maxRecDepth 100000 in
theorem zq_32_0 (d n z : Nat) (l1 : Int32) (S : z_St) : z_R32 d (n + 1) 0 z [some (.ref 22), some (.int l1)] [] S = if (nI 5) < l1 then (z_R32 d n 14 z [some (.ref 22), some (.int l1)] [] S) else (z_clv (z_ew d 30 [.ref 22, .int (nI 0), .int l1] S) (fun S1 => z_R32 d n 61 z [some (.ref 22), some (.int l1)] [] S1) (z_hnd [])) := by
  refine zs_run (L' := [some (.ref 22), some (.int l1)]) rfl rfl ?_
  exact zs_iload_n rfl (zs_iconst (v := nI 5) rfl (zs_ic_gt rfl (zs_aload_n rfl (zs_iconst (v := nI 0) rfl (zs_iload_n rfl (zs_Vv rfl rfl (Or.inr ⟨Or.inl rfl, _, _, rfl, rfl⟩) (fun S1 => zs_goto rfl) (fun _ _ => rfl)))))))
set_option maxRecDepth 100000 in
theorem zq_32_14 (d n z : Nat)  (d1 : Option Value) (S : z_St) : z_R32 d (n + 1) 14 z [some (.ref 22), d1] [] S = if (S.1 23 3) = (nI 1) then (z_R32 d n 48 z [some (.ref 22), none] [] S) else (if (S.1 23 3) = (nI 2) then (z_R32 d n 48 z [some (.ref 22), none] [] S) else (if (S.1 23 3) = (nI 40) then (z_R32 d n 48 z [some (.ref 22), none] [] S) else (z_R32 d n 56 z [some (.ref 22), none] [] S))) := by
  refine zs_run (L' := [some (.ref 22), none]) rfl rfl ?_
  exact zs_aload_n rfl (zs_get3 rfl (zs_get0 (x := (S.1 23 3)) rfl rfl (zs_iconst (v := nI 1) rfl (zs_ic_eq rfl (zs_aload_n rfl (zs_get3 rfl (zs_get0 (x := (S.1 23 3)) rfl rfl (zs_iconst (v := nI 2) rfl (zs_ic_eq rfl (zs_aload_n rfl (zs_get3 rfl (zs_get0 (x := (S.1 23 3)) rfl rfl (zs_bipush (v := nI 40) rfl (zs_ic_ne rfl (zs_nil rfl)))))))))))))))
set_option maxRecDepth 100000 in
theorem zq_32_48 (d n z : Nat)  (d1 : Option Value) (S : z_St) : z_R32 d (n + 1) 48 z [some (.ref 22), d1] [] S = z_clv (z_ew d 24 [.ref 22, .int (nI 2)] S) (fun S1 => z_R32 d n 61 z [some (.ref 22), none] [] S1) (z_hnd []) := by
  refine zs_run (L' := [some (.ref 22), none]) rfl rfl ?_
  exact zs_aload_n rfl (zs_iconst (v := nI 2) rfl (zs_Vv rfl rfl (Or.inr ⟨Or.inl rfl, _, _, rfl, rfl⟩) (fun S1 => zs_goto rfl) (fun _ _ => rfl)))
set_option maxRecDepth 100000 in
theorem zq_32_56 (d n z : Nat)  (d1 : Option Value) (S : z_St) : z_R32 d (n + 1) 56 z [some (.ref 22), d1] [] S = z_clv (z_ew d 24 [.ref 22, .int (nI 1)] S) (fun S1 => z_R32 d n 61 z [some (.ref 22), none] [] S1) (z_hnd []) := by
  refine zs_run (L' := [some (.ref 22), none]) rfl rfl ?_
  exact zs_aload_n rfl (zs_iconst (v := nI 1) rfl (zs_Vv rfl rfl (Or.inr ⟨Or.inl rfl, _, _, rfl, rfl⟩) (fun S1 => zs_nil rfl) (fun _ _ => rfl)))
set_option maxRecDepth 100000 in
theorem zq_32_61 (d n z : Nat)  (d0 d1 : Option Value) (S : z_St) : z_R32 d (n + 1) 61 z [d0, d1] [] S = some (.inl none, S) := by
  refine zs_run (L' := [none, none]) rfl rfl ?_
  exact zs_ret rfl
/-- SlipRoom$Parser.passNots()I -/
noncomputable def z_R33 (d : Nat) : Nat → z_K := z_run false (some .int) [] (z_ew d) z_b33
theorem ze_33 (d : Nat) (as : List Value) (S : z_St) (h : Nat.ble (z_sl as).length 2 = true) : z_ew (d + 1) 33 as S = z_R33 d z_fuel 0 0 (z_in 2 as) [] S := zs_ew h
set_option maxRecDepth 100000 in
theorem zq_33_0 (d n z : Nat)  (d1 : Option Value) (S : z_St) : z_R33 d (n + 1) 0 z [some (.ref 22), d1] [] S = z_R33 d n 2 z [some (.ref 22), some (.int (nI 0))] [] S := by
  refine zs_run (L' := [some (.ref 22), none]) rfl rfl ?_
  exact zs_iconst (v := nI 0) rfl (zs_istore_n (L' := [some (.ref 22), some (.int (nI 0))]) rfl rfl (zs_nil rfl))
set_option maxRecDepth 100000 in
theorem zq_33_2 (d n z : Nat) (l1 : Int32) (S : z_St) : z_R33 d (n + 1) 2 z [some (.ref 22), some (.int l1)] [] S = if (nI 6) ≤ l1 then (z_R33 d n 24 z [some (.ref 22), some (.int l1)] [] S) else (z_cli (z_ew d 27 [.ref 22, .ref 1010] S) (fun x2 S1 => if x2 = 0 then (z_R33 d n 24 z [some (.ref 22), some (.int l1)] [] S1) else (z_R33 d n 2 z [some (.ref 22), some (.int (l1 + (nI 1)))] [] S1)) (z_hnd [])) := by
  refine zs_run (L' := [some (.ref 22), some (.int l1)]) rfl rfl ?_
  exact zs_iload_n rfl (zs_bipush (v := nI 6) rfl (zs_ic_ge rfl (zs_aload_n rfl (zs_getstatic (zs_Vi rfl rfl (Or.inr ⟨Or.inl rfl, _, _, rfl, rfl⟩) (fun x2 S1 => zs_if_eq rfl (zs_iinc (v := nI 1) (L' := [some (.ref 22), some (.int (l1 + (nI 1)))]) rfl rfl rfl rfl (zs_goto rfl))) (fun _ _ => rfl))))))
set_option maxRecDepth 100000 in
theorem zq_33_24 (d n z : Nat) (l1 : Int32) (S : z_St) : z_R33 d (n + 1) 24 z [some (.ref 22), some (.int l1)] [] S = cond (decide ((S.1 23 6) = -1)) none (cond (Nat.ble 1000 (((S.1 23 6)).toNatClampNeg) && Nat.blt (((S.1 23 6)).toNatClampNeg) 1017 && Nat.ble 1000 1010 && Nat.blt 1010 1017) (if (((S.1 23 6)).toNatClampNeg) = 1010 then (z_clv (z_ew d 24 [.ref 22, .int (nI 2)] S) (fun S1 => z_R33 d n 42 z [some (.ref 22), some (.int l1)] [] S1) (z_hnd [])) else (z_R33 d n 42 z [some (.ref 22), some (.int l1)] [] S)) none) := by
  refine zs_run (L' := [some (.ref 22), some (.int l1)]) rfl rfl ?_
  exact zs_aload_n rfl (zs_get3 rfl (zs_get1 (x := (S.1 23 6)) rfl rfl (zs_getstatic (zs_ac_ne rfl (zs_aload_n rfl (zs_iconst (v := nI 2) rfl (zs_Vv rfl rfl (Or.inr ⟨Or.inl rfl, _, _, rfl, rfl⟩) (fun S1 => zs_nil rfl) (fun _ _ => rfl))))))))
set_option maxRecDepth 100000 in
theorem zq_33_42 (d n z : Nat) (l1 : Int32) (d0 : Option Value) (S : z_St) : z_R33 d (n + 1) 42 z [d0, some (.int l1)] [] S = some (.inl (some (.int l1)), S) := by
  refine zs_run (L' := [none, some (.int l1)]) rfl rfl ?_
  exact zs_iload_n rfl (zs_iret rfl)
/-- SlipRoom$Parser.takePart()V -/
noncomputable def z_R34 (d : Nat) : Nat → z_K := z_run false none [] (z_ew d) z_b34
theorem ze_34 (d : Nat) (as : List Value) (S : z_St) (h : Nat.ble (z_sl as).length 1 = true) : z_ew (d + 1) 34 as S = z_R34 d z_fuel 0 0 (z_in 1 as) [] S := zs_ew h
set_option maxRecDepth 100000 in
theorem zq_34_0 (d n z : Nat)  (S : z_St) : z_R34 d (n + 1) 0 z [some (.ref 22)] [] S = if (S.1 23 3) = (nI 1) then (z_R34 d n 30 z [some (.ref 22)] [] S) else (if (S.1 23 3) = (nI 2) then (z_R34 d n 30 z [some (.ref 22)] [] S) else (z_clv (z_ew d 24 [.ref 22, .int (nI 1)] S) (fun S1 => z_R34 d n 133 z [some (.ref 22)] [] S1) (z_hnd []))) := by
  refine zs_run (L' := [some (.ref 22)]) rfl rfl ?_
  exact zs_aload_n rfl (zs_get3 rfl (zs_get0 (x := (S.1 23 3)) rfl rfl (zs_iconst (v := nI 1) rfl (zs_ic_eq rfl (zs_aload_n rfl (zs_get3 rfl (zs_get0 (x := (S.1 23 3)) rfl rfl (zs_iconst (v := nI 2) rfl (zs_ic_eq rfl (zs_aload_n rfl (zs_iconst (v := nI 1) rfl (zs_Vv rfl rfl (Or.inr ⟨Or.inl rfl, _, _, rfl, rfl⟩) (fun S1 => zs_goto rfl) (fun _ _ => rfl)))))))))))))
set_option maxRecDepth 100000 in
theorem zq_34_30 (d n z : Nat)  (S : z_St) : z_R34 d (n + 1) 30 z [some (.ref 22)] [] S = if (S.1 23 5) ≤ (nI 9999) then (z_R34 d n 51 z [some (.ref 22)] [] S) else (z_clv (z_ew d 24 [.ref 22, .int (nI 2)] S) (fun S1 => z_R34 d n 133 z [some (.ref 22)] [] S1) (z_hnd [])) := by
  refine zs_run (L' := [some (.ref 22)]) rfl rfl ?_
  exact zs_aload_n rfl (zs_get3 rfl (zs_get0 (x := (S.1 23 5)) rfl rfl (zs_sipush (v := nI 9999) rfl (zs_ic_le rfl (zs_aload_n rfl (zs_iconst (v := nI 2) rfl (zs_Vv rfl rfl (Or.inr ⟨Or.inl rfl, _, _, rfl, rfl⟩) (fun S1 => zs_goto rfl) (fun _ _ => rfl))))))))
set_option maxRecDepth 100000 in
theorem zq_34_51 (d n z : Nat)  (S : z_St) : z_R34 d (n + 1) 51 z [some (.ref 22)] [] S = if (S.1 23 3) = (nI 2) then (cond (decide ((S.1 23 6) = -1)) none (cond (z_isO 10 (((S.1 23 6)).toNatClampNeg)) (if (z_wv.getD (((S.1 23 6)).toNatClampNeg - 1000) 0) = (-nI 1) then (z_clv (z_ew d 24 [.ref 22, .int (nI 3)] S) (fun S1 => z_R34 d n 133 z [some (.ref 22)] [] S1) (z_hnd [])) else (z_R34 d n 84 z [some (.ref 22)] [] S)) none)) else (z_R34 d n 84 z [some (.ref 22)] [] S) := by
  refine zs_run (L' := [some (.ref 22)]) rfl rfl ?_
  exact zs_aload_n rfl (zs_get3 rfl (zs_get0 (x := (S.1 23 3)) rfl rfl (zs_iconst (v := nI 2) rfl (zs_ic_ne rfl (zs_aload_n rfl (zs_get3 rfl (zs_get1 (x := (S.1 23 6)) rfl rfl (zs_get5c (zs_iconst (v := (-nI 1)) rfl (zs_ic_ne rfl (zs_aload_n rfl (zs_iconst (v := nI 3) rfl (zs_Vv rfl rfl (Or.inr ⟨Or.inl rfl, _, _, rfl, rfl⟩) (fun S1 => zs_goto rfl) (fun _ _ => rfl))))))))))))))
set_option maxRecDepth 100000 in
theorem zq_34_84 (d n z : Nat)  (S : z_St) : z_R34 d (n + 1) 84 z [some (.ref 22)] [] S = cond (decide ((S.1 22 1) = -1)) none (if (S.1 23 3) = (nI 2) then (cond (decide ((S.1 23 6) = -1)) none (cond (z_isO 10 (((S.1 23 6)).toNatClampNeg)) (z_R34 d n 123 z [some (.ref 22)] [.int ((nI 10000) + (z_wv.getD (((S.1 23 6)).toNatClampNeg - 1000) 0)), .ref (((S.1 22 1)).toNatClampNeg)] S) none)) else (z_R34 d n 116 z [some (.ref 22)] [.ref (((S.1 22 1)).toNatClampNeg)] S)) := by
  refine zs_run (L' := [some (.ref 22)]) rfl rfl ?_
  exact zs_aload_n rfl (zs_get1 (x := (S.1 22 1)) rfl rfl (zs_aload_n rfl (zs_get3 rfl (zs_get0 (x := (S.1 23 3)) rfl rfl (zs_iconst (v := nI 2) rfl (zs_ic_ne rfl (zs_sipush (v := nI 10000) rfl (zs_aload_n rfl (zs_get3 rfl (zs_get1 (x := (S.1 23 6)) rfl rfl (zs_get5c (zs_iadd (zs_goto rfl)))))))))))))
set_option maxRecDepth 100000 in
theorem zq_34_116 (d n z : Nat) (rt0 : Nat) (S : z_St) : z_R34 d (n + 1) 116 z [some (.ref 22)] [.ref rt0] S = z_R34 d n 123 z [some (.ref 22)] [.int (S.1 23 5), .ref rt0] S := by
  refine zs_run (L' := [some (.ref 22)]) rfl rfl ?_
  exact zs_aload_n rfl (zs_get3 rfl (zs_get0 (x := (S.1 23 5)) rfl rfl (zs_nil rfl)))
set_option maxRecDepth 100000 in
theorem zq_34_123 (d n z : Nat) (t0 : Int32) (rt1 : Nat) (S : z_St) : z_R34 d (n + 1) 123 z [some (.ref 22)] [.int t0, .ref rt1] S = cond (z_isO 3 rt1) (z_clv (z_ew d 36 [.ref rt1, .int t0] S) (fun S1 => z_clv (z_ew d 61 [.ref 23] S1) (fun S2 => z_R34 d n 133 z [some (.ref 22)] [] S2) (z_hnd [])) (z_hnd [])) none := by
  refine zs_run (L' := [some (.ref 22)]) rfl rfl ?_
  exact zs_Vvc rfl rfl (Or.inl rfl) (fun S1 => zs_aload_n rfl (zs_get3 rfl (zs_Vv rfl rfl (Or.inr ⟨Or.inl rfl, _, _, rfl, rfl⟩) (fun S2 => zs_nil rfl) (fun _ _ => rfl)))) (fun _ _ => rfl)
set_option maxRecDepth 100000 in
theorem zq_34_133 (d n z : Nat)  (d0 : Option Value) (S : z_St) : z_R34 d (n + 1) 133 z [d0] [] S = some (.inl none, S) := by
  refine zs_run (L' := [none]) rfl rfl ?_
  exact zs_ret rfl
/-- SlipRoom$Tokens.begin(I)V -/
noncomputable def z_R59 (d : Nat) : Nat → z_K := z_run false none [] (z_ew d) z_b59
theorem ze_59 (d : Nat) (as : List Value) (S : z_St) (h : Nat.ble (z_sl as).length 2 = true) : z_ew (d + 1) 59 as S = z_R59 d z_fuel 0 0 (z_in 2 as) [] S := zs_ew h
set_option maxRecDepth 100000 in
theorem zq_59_0 (d n z : Nat) (l1 : Int32) (S : z_St) : z_R59 d (n + 1) 0 z [some (.ref 23), some (.int l1)] [] S = z_cli (z_ew d 188 [.int l1, .int (nI 700)] S) (fun x2 S1 => z_clv (z_ew d 61 [.ref 23] ((z_w1 (z_w1 S1.1 23 1 x2) 23 2 (nI 0)), S1.2)) (fun S3 => some (.inl none, S3)) (z_hnd [])) (z_hnd []) := by
  refine zs_run (L' := [some (.ref 23), some (.int l1)]) rfl rfl ?_
  exact zs_aload_n rfl (zs_iload_n rfl (zs_aload_n rfl (zs_get3 rfl (zs_al rfl rfl rfl rfl (zs_Si rfl rfl (Or.inl (Or.inl rfl)) (fun x2 S1 => zs_put (S' := ((z_w1 S1.1 23 1 x2), S1.2)) rfl rfl (zs_aload_n rfl (zs_iconst (v := nI 0) rfl (zs_put (S' := ((z_w1 (z_w1 S1.1 23 1 x2) 23 2 (nI 0)), S1.2)) rfl rfl (zs_aload_n rfl (zs_Vv rfl rfl (Or.inr ⟨Or.inl rfl, _, _, rfl, rfl⟩) (fun S3 => zs_ret rfl) (fun _ _ => rfl))))))) (fun _ _ => rfl))))))
/-- SlipRoom$Tokens.stop()V -/
noncomputable def z_R60 (d : Nat) : Nat → z_K := z_run false none [] (z_ew d) z_b60
theorem ze_60 (d : Nat) (as : List Value) (S : z_St) (h : Nat.ble (z_sl as).length 1 = true) : z_ew (d + 1) 60 as S = z_R60 d z_fuel 0 0 (z_in 1 as) [] S := zs_ew h
set_option maxRecDepth 100000 in
theorem zq_60_0 (d n z : Nat)  (S : z_St) : z_R60 d (n + 1) 0 z [some (.ref 23)] [] S = some (.inl none, ((z_w1 (z_w1 (z_w1 S.1 23 2 (S.1 23 1)) 23 3 (nI 0)) 23 6 (nI 1000)), S.2)) := by
  refine zs_run (L' := [some (.ref 23)]) rfl rfl ?_
  exact zs_aload_n rfl (zs_aload_n rfl (zs_get0 (x := (S.1 23 1)) rfl rfl (zs_put (S' := ((z_w1 S.1 23 2 (S.1 23 1)), S.2)) rfl rfl (zs_aload_n rfl (zs_iconst (v := nI 0) rfl (zs_put (S' := ((z_w1 (z_w1 S.1 23 2 (S.1 23 1)) 23 3 (nI 0)), S.2)) rfl rfl (zs_aload_n rfl (zs_getstatic (zs_putr (S' := ((z_w1 (z_w1 (z_w1 S.1 23 2 (S.1 23 1)) 23 3 (nI 0)) 23 6 (nI 1000)), S.2)) rfl rfl (zs_ret rfl))))))))))
/-- SlipRoom$Tokens.advance()V -/
noncomputable def z_R61 (d : Nat) : Nat → z_K := z_run false none [] (z_ew d) z_b61
theorem ze_61 (d : Nat) (as : List Value) (S : z_St) (h : Nat.ble (z_sl as).length 1 = true) : z_ew (d + 1) 61 as S = z_R61 d z_fuel 0 0 (z_in 1 as) [] S := zs_ew h
set_option maxRecDepth 100000 in
theorem zq_61_0 (d n z : Nat)  (S : z_St) : z_R61 d (n + 1) 0 z [some (.ref 23)] [] S = z_cli (z_ew d 64 [.ref 23] ((z_w1 (z_w1 S.1 23 6 (nI 1000)) 23 5 (nI 0)), S.2)) (fun x2 S1 => if x2 < (S1.1 23 1) then (z_R61 d n 47 z [some (.ref 23)] [] ((z_w1 (z_w1 S1.1 23 4 x2) 23 2 x2), S1.2)) else (z_R61 d n 162 z [some (.ref 23)] [] ((z_w1 (z_w1 (z_w1 S1.1 23 4 x2) 23 2 x2) 23 3 (nI 0)), S1.2))) (z_hnd []) := by
  refine zs_run (L' := [some (.ref 23)]) rfl rfl ?_
  exact zs_aload_n rfl (zs_getstatic (zs_putr (S' := ((z_w1 S.1 23 6 (nI 1000)), S.2)) rfl rfl (zs_aload_n rfl (zs_iconst (v := nI 0) rfl (zs_put (S' := ((z_w1 (z_w1 S.1 23 6 (nI 1000)) 23 5 (nI 0)), S.2)) rfl rfl (zs_aload_n rfl (zs_aload_n rfl (zs_Vi rfl rfl (Or.inr ⟨Or.inl rfl, _, _, rfl, rfl⟩) (fun x2 S1 => zs_put (S' := ((z_w1 S1.1 23 4 x2), S1.2)) rfl rfl (zs_aload_n rfl (zs_aload_n rfl (zs_get0 (x := x2) rfl rfl (zs_put (S' := ((z_w1 (z_w1 S1.1 23 4 x2) 23 2 x2), S1.2)) rfl rfl (zs_aload_n rfl (zs_get0 (x := x2) rfl rfl (zs_aload_n rfl (zs_get0 (x := (S1.1 23 1)) rfl rfl (zs_ic_lt rfl (zs_aload_n rfl (zs_iconst (v := nI 0) rfl (zs_put (S' := ((z_w1 (z_w1 (z_w1 S1.1 23 4 x2) 23 2 x2) 23 3 (nI 0)), S1.2)) rfl rfl (zs_goto rfl)))))))))))))) (fun _ _ => rfl)))))))))
set_option maxRecDepth 100000 in
theorem zq_61_47 (d n z : Nat)  (S : z_St) : z_R61 d (n + 1) 47 z [some (.ref 23)] [] S = cond (z_ix (S.1 23 4) 700) (z_cli (z_ew d 67 [.int (S.1 1 (((S.1 23 4)).toNatClampNeg))] S) (fun x2 S1 => if x2 = 0 then (z_R61 d n 93 z [some (.ref 23)] [] S1) else (z_clv (z_ew d 65 [.ref 23] ((z_w1 S1.1 23 3 (nI 2)), S1.2)) (fun S3 => z_clr (z_ew d 73 [.ref 1, .int (S3.1 23 4), .int (S3.1 23 2)] S3) (fun x5 S4 => cond (Nat.blt x5 2000) (z_R61 d n 162 z [some (.ref 23)] [] ((z_w1 S4.1 23 6 (nI x5)), S4.2)) none) (z_hnd [])) (z_hnd []))) (z_hnd [])) none := by
  refine zs_run (L' := [some (.ref 23)]) rfl rfl ?_
  exact zs_aload_n rfl (zs_get3 rfl (zs_aload_n rfl (zs_get0 (x := (S.1 23 4)) rfl rfl (zs_ba (v := (S.1 1 (((S.1 23 4)).toNatClampNeg))) rfl rfl rfl (zs_Si rfl rfl (Or.inl (Or.inl rfl)) (fun x2 S1 => zs_if_eq rfl (zs_aload_n rfl (zs_iconst (v := nI 2) rfl (zs_put (S' := ((z_w1 S1.1 23 3 (nI 2)), S1.2)) rfl rfl (zs_aload_n rfl (zs_Vv rfl rfl (Or.inr ⟨Or.inl rfl, _, _, rfl, rfl⟩) (fun S3 => zs_aload_n rfl (zs_aload_n rfl (zs_get3 rfl (zs_aload_n rfl (zs_get0 (x := (S3.1 23 4)) rfl rfl (zs_aload_n rfl (zs_get0 (x := (S3.1 23 2)) rfl rfl (zs_Sr rfl rfl (Or.inl (Or.inl rfl)) (fun x5 S4 => zs_putrc (S' := ((z_w1 S4.1 23 6 (nI x5)), S4.2)) rfl rfl (zs_goto rfl)) (fun _ _ => rfl))))))))) (fun _ _ => rfl))))))) (fun _ _ => rfl))))))
set_option maxRecDepth 100000 in
theorem zq_61_93 (d n z : Nat)  (S : z_St) : z_R61 d (n + 1) 93 z [some (.ref 23)] [] S = cond (z_ix (S.1 23 4) 700) (z_cli (z_ew d 68 [.int (S.1 1 (((S.1 23 4)).toNatClampNeg))] S) (fun x2 S1 => if x2 = 0 then (z_R61 d n 120 z [some (.ref 23)] [] S1) else (z_clv (z_ew d 66 [.ref 23] ((z_w1 S1.1 23 3 (nI 1)), S1.2)) (fun S3 => z_R61 d n 162 z [some (.ref 23)] [] S3) (z_hnd []))) (z_hnd [])) none := by
  refine zs_run (L' := [some (.ref 23)]) rfl rfl ?_
  exact zs_aload_n rfl (zs_get3 rfl (zs_aload_n rfl (zs_get0 (x := (S.1 23 4)) rfl rfl (zs_ba (v := (S.1 1 (((S.1 23 4)).toNatClampNeg))) rfl rfl rfl (zs_Si rfl rfl (Or.inl (Or.inl rfl)) (fun x2 S1 => zs_if_eq rfl (zs_aload_n rfl (zs_iconst (v := nI 1) rfl (zs_put (S' := ((z_w1 S1.1 23 3 (nI 1)), S1.2)) rfl rfl (zs_aload_n rfl (zs_Vv rfl rfl (Or.inr ⟨Or.inl rfl, _, _, rfl, rfl⟩) (fun S3 => zs_goto rfl) (fun _ _ => rfl))))))) (fun _ _ => rfl))))))
set_option maxRecDepth 100000 in
theorem zq_61_120 (d n z : Nat)  (S : z_St) : z_R61 d (n + 1) 120 z [some (.ref 23)] [] S = cond (z_ix (S.1 23 4) 700) (z_cli (z_ew d 69 [.int (S.1 1 (((S.1 23 4)).toNatClampNeg))] S) (fun x2 S1 => if x2 = 0 then (z_R61 d n 148 z [some (.ref 23)] [.ref 23] S1) else (cond (z_ix (S1.1 23 4) 700) (z_R61 d n 149 z [some (.ref 23)] [.int (S1.1 1 (((S1.1 23 4)).toNatClampNeg)), .ref 23] S1) none)) (z_hnd [])) none := by
  refine zs_run (L' := [some (.ref 23)]) rfl rfl ?_
  exact zs_aload_n rfl (zs_aload_n rfl (zs_get3 rfl (zs_aload_n rfl (zs_get0 (x := (S.1 23 4)) rfl rfl (zs_ba (v := (S.1 1 (((S.1 23 4)).toNatClampNeg))) rfl rfl rfl (zs_Si rfl rfl (Or.inl (Or.inl rfl)) (fun x2 S1 => zs_if_eq rfl (zs_aload_n rfl (zs_get3 rfl (zs_aload_n rfl (zs_get0 (x := (S1.1 23 4)) rfl rfl (zs_ba (v := (S1.1 1 (((S1.1 23 4)).toNatClampNeg))) rfl rfl rfl (zs_goto rfl))))))) (fun _ _ => rfl)))))))
set_option maxRecDepth 100000 in
theorem zq_61_148 (d n z : Nat)  (S : z_St) : z_R61 d (n + 1) 148 z [some (.ref 23)] [.ref 23] S = z_R61 d n 149 z [some (.ref 23)] [.int (nI 3), .ref 23] S := by
  refine zs_run (L' := [some (.ref 23)]) rfl rfl ?_
  exact zs_iconst (v := nI 3) rfl (zs_nil rfl)
set_option maxRecDepth 100000 in
theorem zq_61_149 (d n z : Nat) (t0 : Int32) (S : z_St) : z_R61 d (n + 1) 149 z [some (.ref 23)] [.int t0, .ref 23] S = z_R61 d n 162 z [some (.ref 23)] [] ((z_w1 (z_w1 S.1 23 3 t0) 23 2 ((S.1 23 2) + (nI 1))), S.2) := by
  refine zs_run (L' := [some (.ref 23)]) rfl rfl ?_
  exact zs_put (S' := ((z_w1 S.1 23 3 t0), S.2)) rfl rfl (zs_aload_n rfl (zs_dupr (zs_get0 (x := (S.1 23 2)) rfl rfl (zs_iconst (v := nI 1) rfl (zs_iadd (zs_put (S' := ((z_w1 (z_w1 S.1 23 3 t0) 23 2 ((S.1 23 2) + (nI 1))), S.2)) rfl rfl (zs_nil rfl)))))))
set_option maxRecDepth 100000 in
theorem zq_61_162 (d n z : Nat)  (d0 : Option Value) (S : z_St) : z_R61 d (n + 1) 162 z [d0] [] S = some (.inl none, S) := by
  refine zs_run (L' := [none]) rfl rfl ?_
  exact zs_ret rfl
/-- SlipRoom$Tokens.joins()I -/
noncomputable def z_R62 (d : Nat) : Nat → z_K := z_run false (some .int) [] (z_ew d) z_b62
theorem ze_62 (d : Nat) (as : List Value) (S : z_St) (h : Nat.ble (z_sl as).length 1 = true) : z_ew (d + 1) 62 as S = z_R62 d z_fuel 0 0 (z_in 1 as) [] S := zs_ew h
set_option maxRecDepth 100000 in
theorem zq_62_0 (d n z : Nat)  (S : z_St) : z_R62 d (n + 1) 0 z [some (.ref 23)] [] S = z_sw (S.1 23 3) 102 42 61 #[96, 98, 102, 98, 102, 96, 102, 102, 102, 102, 102, 102, 102, 102, 102, 102, 102, 102, 100, 100] (fun o => z_R62 d n (z_tg 4 o) z [some (.ref 23)] [] S) := by
  refine zs_run (L' := [some (.ref 23)]) rfl rfl ?_
  exact zs_aload_n rfl (zs_get0 (x := (S.1 23 3)) rfl rfl (zs_tsw (fun o => rfl)))
set_option maxRecDepth 100000 in
theorem zq_62_100 (d n z : Nat)  (d0 : Option Value) (S : z_St) : z_R62 d (n + 1) 100 z [d0] [] S = some (.inl (some (.int (nI 4))), S) := by
  refine zs_run (L' := [none]) rfl rfl ?_
  exact zs_iconst (v := nI 4) rfl (zs_iret rfl)
set_option maxRecDepth 100000 in
theorem zq_62_102 (d n z : Nat)  (d0 : Option Value) (S : z_St) : z_R62 d (n + 1) 102 z [d0] [] S = some (.inl (some (.int (nI 3))), S) := by
  refine zs_run (L' := [none]) rfl rfl ?_
  exact zs_iconst (v := nI 3) rfl (zs_iret rfl)
set_option maxRecDepth 100000 in
theorem zq_62_104 (d n z : Nat)  (d0 : Option Value) (S : z_St) : z_R62 d (n + 1) 104 z [d0] [] S = some (.inl (some (.int (nI 2))), S) := by
  refine zs_run (L' := [none]) rfl rfl ?_
  exact zs_iconst (v := nI 2) rfl (zs_iret rfl)
set_option maxRecDepth 100000 in
theorem zq_62_106 (d n z : Nat)  (S : z_St) : z_R62 d (n + 1) 106 z [some (.ref 23)] [] S = cond (decide ((S.1 23 6) = -1)) none (cond (Nat.ble 1000 (((S.1 23 6)).toNatClampNeg) && Nat.blt (((S.1 23 6)).toNatClampNeg) 1017 && Nat.ble 1000 1009 && Nat.blt 1009 1017) (if (((S.1 23 6)).toNatClampNeg) = 1009 then (z_R62 d n 135 z [some (.ref 23)] [.int (nI 1)] S) else (z_R62 d n 120 z [some (.ref 23)] [] S)) none) := by
  refine zs_run (L' := [some (.ref 23)]) rfl rfl ?_
  exact zs_aload_n rfl (zs_get1 (x := (S.1 23 6)) rfl rfl (zs_getstatic (zs_ac_ne rfl (zs_iconst (v := nI 1) rfl (zs_goto rfl)))))
set_option maxRecDepth 100000 in
theorem zq_62_120 (d n z : Nat)  (S : z_St) : z_R62 d (n + 1) 120 z [some (.ref 23)] [] S = cond (decide ((S.1 23 6) = -1)) none (cond (Nat.ble 1000 (((S.1 23 6)).toNatClampNeg) && Nat.blt (((S.1 23 6)).toNatClampNeg) 1017 && Nat.ble 1000 1008 && Nat.blt 1008 1017) (if (((S.1 23 6)).toNatClampNeg) = 1008 then (z_R62 d n 135 z [some (.ref 23)] [.int (nI 0)] S) else (z_R62 d n 134 z [some (.ref 23)] [] S)) none) := by
  refine zs_run (L' := [some (.ref 23)]) rfl rfl ?_
  exact zs_aload_n rfl (zs_get1 (x := (S.1 23 6)) rfl rfl (zs_getstatic (zs_ac_ne rfl (zs_iconst (v := nI 0) rfl (zs_goto rfl)))))
set_option maxRecDepth 100000 in
theorem zq_62_134 (d n z : Nat)  (d0 : Option Value) (S : z_St) : z_R62 d (n + 1) 134 z [d0] [] S = z_R62 d n 135 z [none] [.int (-nI 1)] S := by
  refine zs_run (L' := [none]) rfl rfl ?_
  exact zs_iconst (v := (-nI 1)) rfl (zs_nil rfl)
set_option maxRecDepth 100000 in
theorem zq_62_135 (d n z : Nat) (t0 : Int32) (d0 : Option Value) (S : z_St) : z_R62 d (n + 1) 135 z [d0] [.int t0] S = some (.inl (some (.int t0)), S) := by
  refine zs_run (L' := [none]) rfl rfl ?_
  exact zs_iret rfl
/-- SlipRoom$Tokens.operation()I -/
noncomputable def z_R63 (d : Nat) : Nat → z_K := z_run false (some .int) [] (z_ew d) z_b63
theorem ze_63 (d : Nat) (as : List Value) (S : z_St) (h : Nat.ble (z_sl as).length 1 = true) : z_ew (d + 1) 63 as S = z_R63 d z_fuel 0 0 (z_in 1 as) [] S := zs_ew h
set_option maxRecDepth 100000 in
theorem zq_63_0 (d n z : Nat)  (S : z_St) : z_R63 d (n + 1) 0 z [some (.ref 23)] [] S = cond (decide ((S.1 23 6) = -1)) none (cond (Nat.ble 1000 (((S.1 23 6)).toNatClampNeg) && Nat.blt (((S.1 23 6)).toNatClampNeg) 1017 && Nat.ble 1000 1009 && Nat.blt 1009 1017) (if (((S.1 23 6)).toNatClampNeg) = 1009 then (z_R63 d n 34 z [some (.ref 23)] [.int (nI 38)] S) else (z_R63 d n 15 z [some (.ref 23)] [] S)) none) := by
  refine zs_run (L' := [some (.ref 23)]) rfl rfl ?_
  exact zs_aload_n rfl (zs_get1 (x := (S.1 23 6)) rfl rfl (zs_getstatic (zs_ac_ne rfl (zs_bipush (v := nI 38) rfl (zs_goto rfl)))))
set_option maxRecDepth 100000 in
theorem zq_63_15 (d n z : Nat)  (S : z_St) : z_R63 d (n + 1) 15 z [some (.ref 23)] [] S = cond (decide ((S.1 23 6) = -1)) none (cond (Nat.ble 1000 (((S.1 23 6)).toNatClampNeg) && Nat.blt (((S.1 23 6)).toNatClampNeg) 1017 && Nat.ble 1000 1008 && Nat.blt 1008 1017) (if (((S.1 23 6)).toNatClampNeg) = 1008 then (z_R63 d n 34 z [some (.ref 23)] [.int (nI 124)] S) else (z_R63 d n 30 z [some (.ref 23)] [] S)) none) := by
  refine zs_run (L' := [some (.ref 23)]) rfl rfl ?_
  exact zs_aload_n rfl (zs_get1 (x := (S.1 23 6)) rfl rfl (zs_getstatic (zs_ac_ne rfl (zs_bipush (v := nI 124) rfl (zs_goto rfl)))))
set_option maxRecDepth 100000 in
theorem zq_63_30 (d n z : Nat)  (S : z_St) : z_R63 d (n + 1) 30 z [some (.ref 23)] [] S = z_R63 d n 34 z [some (.ref 23)] [.int (S.1 23 3)] S := by
  refine zs_run (L' := [some (.ref 23)]) rfl rfl ?_
  exact zs_aload_n rfl (zs_get0 (x := (S.1 23 3)) rfl rfl (zs_nil rfl))
set_option maxRecDepth 100000 in
theorem zq_63_34 (d n z : Nat) (t0 : Int32) (d0 : Option Value) (S : z_St) : z_R63 d (n + 1) 34 z [d0] [.int t0] S = some (.inl (some (.int t0)), S) := by
  refine zs_run (L' := [none]) rfl rfl ?_
  exact zs_iret rfl
/-- SlipRoom$Tokens.behindBlanks()I -/
noncomputable def z_R64 (d : Nat) : Nat → z_K := z_run false (some .int) [] (z_ew d) z_b64
theorem ze_64 (d : Nat) (as : List Value) (S : z_St) (h : Nat.ble (z_sl as).length 2 = true) : z_ew (d + 1) 64 as S = z_R64 d z_fuel 0 0 (z_in 2 as) [] S := zs_ew h
set_option maxRecDepth 100000 in
theorem zq_64_0 (d n z : Nat)  (d1 : Option Value) (S : z_St) : z_R64 d (n + 1) 0 z [some (.ref 23), d1] [] S = z_R64 d n 5 z [some (.ref 23), some (.int (S.1 23 2))] [] S := by
  refine zs_run (L' := [some (.ref 23), none]) rfl rfl ?_
  exact zs_aload_n rfl (zs_get0 (x := (S.1 23 2)) rfl rfl (zs_istore_n (L' := [some (.ref 23), some (.int (S.1 23 2))]) rfl rfl (zs_nil rfl)))
set_option maxRecDepth 100000 in
theorem zq_64_5 (d n z : Nat) (l1 : Int32) (S : z_St) : z_R64 d (n + 1) 5 z [some (.ref 23), some (.int l1)] [] S = if (S.1 23 1) ≤ l1 then (z_R64 d n 41 z [some (.ref 23), some (.int l1)] [] S) else (cond (z_ix l1 700) (if (S.1 1 ((l1).toNatClampNeg)) = (nI 32) then (z_R64 d n 35 z [some (.ref 23), some (.int l1)] [] S) else (cond (z_ix l1 700) (if (S.1 1 ((l1).toNatClampNeg)) = (nI 10) then (z_R64 d n 35 z [some (.ref 23), some (.int l1)] [] S) else (z_R64 d n 41 z [some (.ref 23), some (.int l1)] [] S)) none)) none) := by
  refine zs_run (L' := [some (.ref 23), some (.int l1)]) rfl rfl ?_
  exact zs_iload_n rfl (zs_aload_n rfl (zs_get0 (x := (S.1 23 1)) rfl rfl (zs_ic_ge rfl (zs_aload_n rfl (zs_get3 rfl (zs_iload_n rfl (zs_ba (v := (S.1 1 ((l1).toNatClampNeg))) rfl rfl rfl (zs_bipush (v := nI 32) rfl (zs_ic_eq rfl (zs_aload_n rfl (zs_get3 rfl (zs_iload_n rfl (zs_ba (v := (S.1 1 ((l1).toNatClampNeg))) rfl rfl rfl (zs_bipush (v := nI 10) rfl (zs_ic_ne rfl (zs_nil rfl))))))))))))))))
set_option maxRecDepth 100000 in
theorem zq_64_35 (d n z : Nat) (l1 : Int32) (S : z_St) : z_R64 d (n + 1) 35 z [some (.ref 23), some (.int l1)] [] S = z_R64 d n 5 z [some (.ref 23), some (.int (l1 + (nI 1)))] [] S := by
  refine zs_run (L' := [some (.ref 23), some (.int l1)]) rfl rfl ?_
  exact zs_iinc (v := nI 1) (L' := [some (.ref 23), some (.int (l1 + (nI 1)))]) rfl rfl rfl rfl (zs_goto rfl)
set_option maxRecDepth 100000 in
theorem zq_64_41 (d n z : Nat) (l1 : Int32) (d0 : Option Value) (S : z_St) : z_R64 d (n + 1) 41 z [d0, some (.int l1)] [] S = some (.inl (some (.int l1)), S) := by
  refine zs_run (L' := [none, some (.int l1)]) rfl rfl ?_
  exact zs_iload_n rfl (zs_iret rfl)
/-- SlipRoom$Tokens.passLetters()V -/
noncomputable def z_R65 (d : Nat) : Nat → z_K := z_run false none [] (z_ew d) z_b65
theorem ze_65 (d : Nat) (as : List Value) (S : z_St) (h : Nat.ble (z_sl as).length 1 = true) : z_ew (d + 1) 65 as S = z_R65 d z_fuel 0 0 (z_in 1 as) [] S := zs_ew h
set_option maxRecDepth 100000 in
theorem zq_65_0 (d n z : Nat)  (S : z_St) : z_R65 d (n + 1) 0 z [some (.ref 23)] [] S = if (S.1 23 1) ≤ (S.1 23 2) then (z_R65 d n 39 z [some (.ref 23)] [] S) else (cond (z_ix (S.1 23 2) 700) (z_cli (z_ew d 67 [.int (S.1 1 (((S.1 23 2)).toNatClampNeg))] S) (fun x2 S1 => if x2 = 0 then (z_R65 d n 39 z [some (.ref 23)] [] S1) else (z_R65 d n 0 z [some (.ref 23)] [] ((z_w1 S1.1 23 2 ((S1.1 23 2) + (nI 1))), S1.2))) (z_hnd [])) none) := by
  refine zs_run (L' := [some (.ref 23)]) rfl rfl ?_
  exact zs_aload_n rfl (zs_get0 (x := (S.1 23 2)) rfl rfl (zs_aload_n rfl (zs_get0 (x := (S.1 23 1)) rfl rfl (zs_ic_ge rfl (zs_aload_n rfl (zs_get3 rfl (zs_aload_n rfl (zs_get0 (x := (S.1 23 2)) rfl rfl (zs_ba (v := (S.1 1 (((S.1 23 2)).toNatClampNeg))) rfl rfl rfl (zs_Si rfl rfl (Or.inl (Or.inl rfl)) (fun x2 S1 => zs_if_eq rfl (zs_aload_n rfl (zs_dupr (zs_get0 (x := (S1.1 23 2)) rfl rfl (zs_iconst (v := nI 1) rfl (zs_iadd (zs_put (S' := ((z_w1 S1.1 23 2 ((S1.1 23 2) + (nI 1))), S1.2)) rfl rfl (zs_goto rfl)))))))) (fun _ _ => rfl)))))))))))
set_option maxRecDepth 100000 in
theorem zq_65_39 (d n z : Nat)  (d0 : Option Value) (S : z_St) : z_R65 d (n + 1) 39 z [d0] [] S = some (.inl none, S) := by
  refine zs_run (L' := [none]) rfl rfl ?_
  exact zs_ret rfl
/-- SlipRoom$Tokens.passDigits()V -/
noncomputable def z_R66 (d : Nat) : Nat → z_K := z_run false none [] (z_ew d) z_b66
theorem ze_66 (d : Nat) (as : List Value) (S : z_St) (h : Nat.ble (z_sl as).length 1 = true) : z_ew (d + 1) 66 as S = z_R66 d z_fuel 0 0 (z_in 1 as) [] S := zs_ew h
set_option maxRecDepth 100000 in
theorem zq_66_0 (d n z : Nat)  (S : z_St) : z_R66 d (n + 1) 0 z [some (.ref 23)] [] S = if (S.1 23 1) ≤ (S.1 23 2) then (z_R66 d n 69 z [some (.ref 23)] [] S) else (cond (z_ix (S.1 23 2) 700) (z_cli (z_ew d 68 [.int (S.1 1 (((S.1 23 2)).toNatClampNeg))] S) (fun x2 S1 => if x2 = 0 then (z_R66 d n 69 z [some (.ref 23)] [] S1) else (cond (z_ix (S1.1 23 2) 700) (z_cli (z_ew d 188 [.int (nI 10000), .int ((((S1.1 23 5) * (nI 10)) + (S1.1 1 (((S1.1 23 2)).toNatClampNeg))) - (nI 48))] S1) (fun x4 S3 => z_R66 d n 0 z [some (.ref 23)] [] ((z_w1 (z_w1 S3.1 23 5 x4) 23 2 ((S3.1 23 2) + (nI 1))), S3.2)) (z_hnd [])) none)) (z_hnd [])) none) := by
  refine zs_run (L' := [some (.ref 23)]) rfl rfl ?_
  exact zs_aload_n rfl (zs_get0 (x := (S.1 23 2)) rfl rfl (zs_aload_n rfl (zs_get0 (x := (S.1 23 1)) rfl rfl (zs_ic_ge rfl (zs_aload_n rfl (zs_get3 rfl (zs_aload_n rfl (zs_get0 (x := (S.1 23 2)) rfl rfl (zs_ba (v := (S.1 1 (((S.1 23 2)).toNatClampNeg))) rfl rfl rfl (zs_Si rfl rfl (Or.inl (Or.inl rfl)) (fun x2 S1 => zs_if_eq rfl (zs_aload_n rfl (zs_sipush (v := nI 10000) rfl (zs_aload_n rfl (zs_get0 (x := (S1.1 23 5)) rfl rfl (zs_bipush (v := nI 10) rfl (zs_imul (zs_aload_n rfl (zs_get3 rfl (zs_aload_n rfl (zs_get0 (x := (S1.1 23 2)) rfl rfl (zs_ba (v := (S1.1 1 (((S1.1 23 2)).toNatClampNeg))) rfl rfl rfl (zs_iadd (zs_bipush (v := nI 48) rfl (zs_isub (zs_Si rfl rfl (Or.inl (Or.inl rfl)) (fun x4 S3 => zs_put (S' := ((z_w1 S3.1 23 5 x4), S3.2)) rfl rfl (zs_aload_n rfl (zs_dupr (zs_get0 (x := (S3.1 23 2)) rfl rfl (zs_iconst (v := nI 1) rfl (zs_iadd (zs_put (S' := ((z_w1 (z_w1 S3.1 23 5 x4) 23 2 ((S3.1 23 2) + (nI 1))), S3.2)) rfl rfl (zs_goto rfl)))))))) (fun _ _ => rfl))))))))))))))))) (fun _ _ => rfl)))))))))))
set_option maxRecDepth 100000 in
theorem zq_66_69 (d n z : Nat)  (S : z_St) : z_R66 d (n + 1) 69 z [some (.ref 23)] [] S = if ((S.1 23 2) - (S.1 23 4)) ≤ (nI 4) then (z_R66 d n 89 z [some (.ref 23)] [] S) else (z_R66 d n 89 z [some (.ref 23)] [] ((z_w1 S.1 23 5 (nI 10000)), S.2)) := by
  refine zs_run (L' := [some (.ref 23)]) rfl rfl ?_
  exact zs_aload_n rfl (zs_get0 (x := (S.1 23 2)) rfl rfl (zs_aload_n rfl (zs_get0 (x := (S.1 23 4)) rfl rfl (zs_isub (zs_iconst (v := nI 4) rfl (zs_ic_le rfl (zs_aload_n rfl (zs_sipush (v := nI 10000) rfl (zs_put (S' := ((z_w1 S.1 23 5 (nI 10000)), S.2)) rfl rfl (zs_nil rfl))))))))))
set_option maxRecDepth 100000 in
theorem zq_66_89 (d n z : Nat)  (d0 : Option Value) (S : z_St) : z_R66 d (n + 1) 89 z [d0] [] S = some (.inl none, S) := by
  refine zs_run (L' := [none]) rfl rfl ?_
  exact zs_ret rfl
/-- SlipRoom$Tokens.isLetter(I)Z -/
noncomputable def z_R67 (d : Nat) : Nat → z_K := z_run false (some .boolean) [] (z_ew d) z_b67
theorem ze_67 (d : Nat) (as : List Value) (S : z_St) (h : Nat.ble (z_sl as).length 1 = true) : z_ew (d + 1) 67 as S = z_R67 d z_fuel 0 0 (z_in 1 as) [] S := zs_ew h
set_option maxRecDepth 100000 in
theorem zq_67_0 (d n z : Nat) (l0 : Int32) (S : z_St) : z_R67 d (n + 1) 0 z [some (.int l0)] [] S = if l0 < (nI 97) then (z_R67 d n 16 z [some (.int l0)] [] S) else (if (nI 122) < l0 then (z_R67 d n 16 z [some (.int l0)] [] S) else (z_R67 d n 17 z [some (.int l0)] [.int (nI 1)] S)) := by
  refine zs_run (L' := [some (.int l0)]) rfl rfl ?_
  exact zs_iload_n rfl (zs_bipush (v := nI 97) rfl (zs_ic_lt rfl (zs_iload_n rfl (zs_bipush (v := nI 122) rfl (zs_ic_gt rfl (zs_iconst (v := nI 1) rfl (zs_goto rfl)))))))
set_option maxRecDepth 100000 in
theorem zq_67_16 (d n z : Nat)  (d0 : Option Value) (S : z_St) : z_R67 d (n + 1) 16 z [d0] [] S = z_R67 d n 17 z [none] [.int (nI 0)] S := by
  refine zs_run (L' := [none]) rfl rfl ?_
  exact zs_iconst (v := nI 0) rfl (zs_nil rfl)
set_option maxRecDepth 100000 in
theorem zq_67_17 (d n z : Nat) (t0 : Int32) (d0 : Option Value) (S : z_St) : z_R67 d (n + 1) 17 z [d0] [.int t0] S = cond (z_rb (some .boolean) t0) (some (.inl (some (.int t0)), S)) none := by
  refine zs_run (L' := [none]) rfl rfl ?_
  exact zs_iretc
/-- SlipRoom$Tokens.isDigit(I)Z -/
noncomputable def z_R68 (d : Nat) : Nat → z_K := z_run false (some .boolean) [] (z_ew d) z_b68
theorem ze_68 (d : Nat) (as : List Value) (S : z_St) (h : Nat.ble (z_sl as).length 1 = true) : z_ew (d + 1) 68 as S = z_R68 d z_fuel 0 0 (z_in 1 as) [] S := zs_ew h
set_option maxRecDepth 100000 in
theorem zq_68_0 (d n z : Nat) (l0 : Int32) (S : z_St) : z_R68 d (n + 1) 0 z [some (.int l0)] [] S = if l0 < (nI 48) then (z_R68 d n 16 z [some (.int l0)] [] S) else (if (nI 57) < l0 then (z_R68 d n 16 z [some (.int l0)] [] S) else (z_R68 d n 17 z [some (.int l0)] [.int (nI 1)] S)) := by
  refine zs_run (L' := [some (.int l0)]) rfl rfl ?_
  exact zs_iload_n rfl (zs_bipush (v := nI 48) rfl (zs_ic_lt rfl (zs_iload_n rfl (zs_bipush (v := nI 57) rfl (zs_ic_gt rfl (zs_iconst (v := nI 1) rfl (zs_goto rfl)))))))
set_option maxRecDepth 100000 in
theorem zq_68_16 (d n z : Nat)  (d0 : Option Value) (S : z_St) : z_R68 d (n + 1) 16 z [d0] [] S = z_R68 d n 17 z [none] [.int (nI 0)] S := by
  refine zs_run (L' := [none]) rfl rfl ?_
  exact zs_iconst (v := nI 0) rfl (zs_nil rfl)
set_option maxRecDepth 100000 in
theorem zq_68_17 (d n z : Nat) (t0 : Int32) (d0 : Option Value) (S : z_St) : z_R68 d (n + 1) 17 z [d0] [.int t0] S = cond (z_rb (some .boolean) t0) (some (.inl (some (.int t0)), S)) none := by
  refine zs_run (L' := [none]) rfl rfl ?_
  exact zs_iretc
/-- SlipRoom$Tokens.isSign(I)Z -/
noncomputable def z_R69 (d : Nat) : Nat → z_K := z_run false (some .boolean) [] (z_ew d) z_b69
theorem ze_69 (d : Nat) (as : List Value) (S : z_St) (h : Nat.ble (z_sl as).length 1 = true) : z_ew (d + 1) 69 as S = z_R69 d z_fuel 0 0 (z_in 1 as) [] S := zs_ew h
set_option maxRecDepth 100000 in
theorem zq_69_0 (d n z : Nat) (l0 : Int32) (S : z_St) : z_R69 d (n + 1) 0 z [some (.int l0)] [] S = z_sw l0 105 40 61 #[103, 103, 103, 103, 105, 103, 105, 103, 105, 105, 105, 105, 105, 105, 105, 105, 105, 105, 105, 103, 103, 103] (fun o => z_R69 d n (z_tg 1 o) z [some (.int l0)] [] S) := by
  refine zs_run (L' := [some (.int l0)]) rfl rfl ?_
  exact zs_iload_n rfl (zs_tsw (fun o => rfl))
set_option maxRecDepth 100000 in
theorem zq_69_104 (d n z : Nat)  (d0 : Option Value) (S : z_St) : z_R69 d (n + 1) 104 z [d0] [] S = some (.inl (some (.int (nI 1))), S) := by
  refine zs_run (L' := [none]) rfl rfl ?_
  exact zs_iconst (v := nI 1) rfl (zs_iret (by decide +kernel))
set_option maxRecDepth 100000 in
theorem zq_69_106 (d n z : Nat)  (d0 : Option Value) (S : z_St) : z_R69 d (n + 1) 106 z [d0] [] S = some (.inl (some (.int (nI 0))), S) := by
  refine zs_run (L' := [none]) rfl rfl ?_
  exact zs_iconst (v := nI 0) rfl (zs_iret (by decide +kernel))
