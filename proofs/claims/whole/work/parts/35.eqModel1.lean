/-- SlipRoomModel.thrown()I -/
noncomputable def z_R110 (d : Nat) : Nat → z_K := z_run false (some .int) [] (z_ew d) z_b110
theorem ze_110 (d : Nat) (as : List Value) (S : z_St) (h : Nat.ble (z_sl as).length 1 = true) : z_ew (d + 1) 110 as S = z_R110 d z_fuel 0 0 (z_in 1 as) [] S := zs_ew h
set_option maxRecDepth 100000 in
theorem zq_110_0 (d n z : Nat)  (S : z_St) : z_R110 d (n + 1) 0 z [some (.ref 70)] [] S = some (.inl (some (.int (S.1 70 1))), S) := by
  refine zs_run (L' := [some (.ref 70)]) rfl rfl ?_
  exact zs_aload_n rfl (zs_get0 (x := (S.1 70 1)) rfl rfl (zs_iret rfl))
/-- SlipRoomModel.fail(I)I -/
noncomputable def z_R111 (d : Nat) : Nat → z_K := z_run false (some .int) [] (z_ew d) z_b111
theorem ze_111 (d : Nat) (as : List Value) (S : z_St) (h : Nat.ble (z_sl as).length 2 = true) : z_ew (d + 1) 111 as S = z_R111 d z_fuel 0 0 (z_in 2 as) [] S := zs_ew h
set_option maxRecDepth 100000 in
theorem zq_111_0 (d n z : Nat) (l1 : Int32) (S : z_St) : z_R111 d (n + 1) 0 z [some (.ref 70), some (.int l1)] [] S = some (.inl (some (.int (nI 0))), ((z_w1 S.1 70 1 l1), S.2)) := by
  refine zs_run (L' := [some (.ref 70), some (.int l1)]) rfl rfl ?_
  exact zs_aload_n rfl (zs_iload_n rfl (zs_put (S' := ((z_w1 S.1 70 1 l1), S.2)) rfl rfl (zs_iconst (v := nI 0) rfl (zs_iret rfl))))
/-- SlipRoomModel.isIn(III)Z -/
noncomputable def z_R112 (d : Nat) : Nat → z_K := z_run false (some .boolean) [] (z_ew d) z_b112
theorem ze_112 (d : Nat) (as : List Value) (S : z_St) (h : Nat.ble (z_sl as).length 3 = true) : z_ew (d + 1) 112 as S = z_R112 d z_fuel 0 0 (z_in 3 as) [] S := zs_ew h
set_option maxRecDepth 100000 in
theorem zq_112_0 (d n z : Nat) (l0 : Int32) (l1 : Int32) (l2 : Int32) (S : z_St) : z_R112 d (n + 1) 0 z [some (.int l0), some (.int l1), some (.int l2)] [] S = if l0 < l1 then (z_R112 d n 14 z [some (.int l0), some (.int l1), some (.int l2)] [] S) else (if l2 < l0 then (z_R112 d n 14 z [some (.int l0), some (.int l1), some (.int l2)] [] S) else (z_R112 d n 15 z [some (.int l0), some (.int l1), some (.int l2)] [.int (nI 1)] S)) := by
  refine zs_run (L' := [some (.int l0), some (.int l1), some (.int l2)]) rfl rfl ?_
  exact zs_iload_n rfl (zs_iload_n rfl (zs_ic_lt rfl (zs_iload_n rfl (zs_iload_n rfl (zs_ic_gt rfl (zs_iconst (v := nI 1) rfl (zs_goto rfl)))))))
set_option maxRecDepth 100000 in
theorem zq_112_14 (d n z : Nat)  (d0 d1 d2 : Option Value) (S : z_St) : z_R112 d (n + 1) 14 z [d0, d1, d2] [] S = z_R112 d n 15 z [none, none, none] [.int (nI 0)] S := by
  refine zs_run (L' := [none, none, none]) rfl rfl ?_
  exact zs_iconst (v := nI 0) rfl (zs_nil rfl)
set_option maxRecDepth 100000 in
theorem zq_112_15 (d n z : Nat) (t0 : Int32) (d0 d1 d2 : Option Value) (S : z_St) : z_R112 d (n + 1) 15 z [d0, d1, d2] [.int t0] S = cond (z_rb (some .boolean) t0) (some (.inl (some (.int t0)), S)) none := by
  refine zs_run (L' := [none, none, none]) rfl rfl ?_
  exact zs_iretc
/-- SlipRoomModel.isBook(I)Z -/
noncomputable def z_R113 (d : Nat) : Nat → z_K := z_run false (some .boolean) [] (z_ew d) z_b113
theorem ze_113 (d : Nat) (as : List Value) (S : z_St) (h : Nat.ble (z_sl as).length 2 = true) : z_ew (d + 1) 113 as S = z_R113 d z_fuel 0 0 (z_in 2 as) [] S := zs_ew h
set_option maxRecDepth 100000 in
theorem zq_113_0 (d n z : Nat) (l1 : Int32) (S : z_St) : z_R113 d (n + 1) 0 z [some (.ref 70), some (.int l1)] [] S = z_cli (z_ew d 112 [.int l1, .int (nI 0), .int ((S.1 70 2) - (nI 1))] S) (fun x2 S1 => cond (z_rb (some .boolean) x2) (some (.inl (some (.int x2)), S1)) none) (z_hnd []) := by
  refine zs_run (L' := [some (.ref 70), some (.int l1)]) rfl rfl ?_
  exact zs_iload_n rfl (zs_iconst (v := nI 0) rfl (zs_aload_n rfl (zs_get0 (x := (S.1 70 2)) rfl rfl (zs_iconst (v := nI 1) rfl (zs_isub (zs_Si rfl rfl (Or.inl (Or.inl rfl)) (fun x2 S1 => zs_iretc) (fun _ _ => rfl)))))))
/-- SlipRoomModel.isReader(I)Z -/
noncomputable def z_R114 (d : Nat) : Nat → z_K := z_run false (some .boolean) [] (z_ew d) z_b114
theorem ze_114 (d : Nat) (as : List Value) (S : z_St) (h : Nat.ble (z_sl as).length 2 = true) : z_ew (d + 1) 114 as S = z_R114 d z_fuel 0 0 (z_in 2 as) [] S := zs_ew h
set_option maxRecDepth 100000 in
theorem zq_114_0 (d n z : Nat) (l1 : Int32) (S : z_St) : z_R114 d (n + 1) 0 z [some (.ref 70), some (.int l1)] [] S = z_cli (z_ew d 112 [.int l1, .int (nI 0), .int ((S.1 70 3) - (nI 1))] S) (fun x2 S1 => cond (z_rb (some .boolean) x2) (some (.inl (some (.int x2)), S1)) none) (z_hnd []) := by
  refine zs_run (L' := [some (.ref 70), some (.int l1)]) rfl rfl ?_
  exact zs_iload_n rfl (zs_iconst (v := nI 0) rfl (zs_aload_n rfl (zs_get0 (x := (S.1 70 3)) rfl rfl (zs_iconst (v := nI 1) rfl (zs_isub (zs_Si rfl rfl (Or.inl (Or.inl rfl)) (fun x2 S1 => zs_iretc) (fun _ _ => rfl)))))))
/-- SlipRoomModel.feed(IIIII)I -/
noncomputable def z_R115 (d : Nat) : Nat → z_K := z_run false (some .int) [] (z_ew d) z_b115
theorem ze_115 (d : Nat) (as : List Value) (S : z_St) (h : Nat.ble (z_sl as).length 8 = true) : z_ew (d + 1) 115 as S = z_R115 d z_fuel 0 0 (z_in 8 as) [] S := zs_ew h
set_option maxRecDepth 100000 in
theorem zq_115_0 (d n z : Nat) (l1 : Int32) (l2 : Int32) (l3 : Int32) (l4 : Int32) (l5 : Int32) (d6 d7 : Option Value) (S : z_St) : z_R115 d (n + 1) 0 z [some (.ref 70), some (.int l1), some (.int l2), some (.int l3), some (.int l4), some (.int l5), d6, d7] [] S = if ((S.1 70 17) + (nI 20)) ≤ (nI 700) then (z_R115 d n 20 z [some (.ref 70), some (.int l1), some (.int l2), some (.int l3), some (.int l4), some (.int l5), none, none] [] ((z_w1 S.1 70 1 (nI 0)), S.2)) else (some (.inl (some (.int (-nI 1))), ((z_w1 S.1 70 1 (nI 0)), S.2))) := by
  refine zs_run (L' := [some (.ref 70), some (.int l1), some (.int l2), some (.int l3), some (.int l4), some (.int l5), none, none]) rfl rfl ?_
  exact zs_aload_n rfl (zs_iconst (v := nI 0) rfl (zs_put (S' := ((z_w1 S.1 70 1 (nI 0)), S.2)) rfl rfl (zs_aload_n rfl (zs_get0 (x := (S.1 70 17)) rfl rfl (zs_bipush (v := nI 20) rfl (zs_iadd (zs_sipush (v := nI 700) rfl (zs_ic_le rfl (zs_iconst (v := (-nI 1)) rfl (zs_iret rfl))))))))))
set_option maxRecDepth 100000 in
theorem zq_115_20 (d n z : Nat) (l1 : Int32) (l2 : Int32) (l3 : Int32) (l4 : Int32) (l5 : Int32) (d6 d7 : Option Value) (S : z_St) : z_R115 d (n + 1) 20 z [some (.ref 70), some (.int l1), some (.int l2), some (.int l3), some (.int l4), some (.int l5), d6, d7] [] S = z_R115 d n 23 z [some (.ref 70), some (.int l1), some (.int l2), some (.int l3), some (.int l4), some (.int l5), some (.int (nI 0)), none] [] S := by
  refine zs_run (L' := [some (.ref 70), some (.int l1), some (.int l2), some (.int l3), some (.int l4), some (.int l5), none, none]) rfl rfl ?_
  exact zs_iconst (v := nI 0) rfl (zs_istore (L' := [some (.ref 70), some (.int l1), some (.int l2), some (.int l3), some (.int l4), some (.int l5), some (.int (nI 0)), none]) rfl rfl (zs_nil rfl))
set_option maxRecDepth 100000 in
theorem zq_115_23 (d n z : Nat) (l1 : Int32) (l2 : Int32) (l3 : Int32) (l4 : Int32) (l5 : Int32) (l6 : Int32) (d7 : Option Value) (S : z_St) : z_R115 d (n + 1) 23 z [some (.ref 70), some (.int l1), some (.int l2), some (.int l3), some (.int l4), some (.int l5), some (.int l6), d7] [] S = if (nI 20) ≤ l6 then (z_R115 d n 120 z [some (.ref 70), some (.int l1), some (.int l2), some (.int l3), some (.int l4), some (.int l5), some (.int l6), none] [] S) else (if (nI 4) ≤ l6 then (z_R115 d n 40 z [some (.ref 70), some (.int l1), some (.int l2), some (.int l3), some (.int l4), some (.int l5), some (.int l6), none] [] S) else (z_R115 d n 76 z [some (.ref 70), some (.int l1), some (.int l2), some (.int l3), some (.int l4), some (.int l5), some (.int l6), none] [.int l1] S)) := by
  refine zs_run (L' := [some (.ref 70), some (.int l1), some (.int l2), some (.int l3), some (.int l4), some (.int l5), some (.int l6), none]) rfl rfl ?_
  exact zs_iload rfl (zs_bipush (v := nI 20) rfl (zs_ic_ge rfl (zs_iload rfl (zs_iconst (v := nI 4) rfl (zs_ic_ge rfl (zs_iload_n rfl (zs_goto rfl)))))))
set_option maxRecDepth 100000 in
theorem zq_115_40 (d n z : Nat) (l1 : Int32) (l2 : Int32) (l3 : Int32) (l4 : Int32) (l5 : Int32) (l6 : Int32) (d7 : Option Value) (S : z_St) : z_R115 d (n + 1) 40 z [some (.ref 70), some (.int l1), some (.int l2), some (.int l3), some (.int l4), some (.int l5), some (.int l6), d7] [] S = if (nI 8) ≤ l6 then (z_R115 d n 51 z [some (.ref 70), some (.int l1), some (.int l2), some (.int l3), some (.int l4), some (.int l5), some (.int l6), none] [] S) else (z_R115 d n 76 z [some (.ref 70), some (.int l1), some (.int l2), some (.int l3), some (.int l4), some (.int l5), some (.int l6), none] [.int l2] S) := by
  refine zs_run (L' := [some (.ref 70), some (.int l1), some (.int l2), some (.int l3), some (.int l4), some (.int l5), some (.int l6), none]) rfl rfl ?_
  exact zs_iload rfl (zs_bipush (v := nI 8) rfl (zs_ic_ge rfl (zs_iload_n rfl (zs_goto rfl))))
set_option maxRecDepth 100000 in
theorem zq_115_51 (d n z : Nat) (l1 : Int32) (l2 : Int32) (l3 : Int32) (l4 : Int32) (l5 : Int32) (l6 : Int32) (d7 : Option Value) (S : z_St) : z_R115 d (n + 1) 51 z [some (.ref 70), some (.int l1), some (.int l2), some (.int l3), some (.int l4), some (.int l5), some (.int l6), d7] [] S = if (nI 12) ≤ l6 then (z_R115 d n 62 z [some (.ref 70), some (.int l1), some (.int l2), some (.int l3), some (.int l4), some (.int l5), some (.int l6), none] [] S) else (z_R115 d n 76 z [some (.ref 70), some (.int l1), some (.int l2), some (.int l3), some (.int l4), some (.int l5), some (.int l6), none] [.int l3] S) := by
  refine zs_run (L' := [some (.ref 70), some (.int l1), some (.int l2), some (.int l3), some (.int l4), some (.int l5), some (.int l6), none]) rfl rfl ?_
  exact zs_iload rfl (zs_bipush (v := nI 12) rfl (zs_ic_ge rfl (zs_iload_n rfl (zs_goto rfl))))
set_option maxRecDepth 100000 in
theorem zq_115_62 (d n z : Nat) (l1 : Int32) (l2 : Int32) (l3 : Int32) (l4 : Int32) (l5 : Int32) (l6 : Int32) (d7 : Option Value) (S : z_St) : z_R115 d (n + 1) 62 z [some (.ref 70), some (.int l1), some (.int l2), some (.int l3), some (.int l4), some (.int l5), some (.int l6), d7] [] S = if (nI 16) ≤ l6 then (z_R115 d n 74 z [some (.ref 70), some (.int l1), some (.int l2), some (.int l3), some (.int l4), some (.int l5), some (.int l6), none] [] S) else (z_R115 d n 76 z [some (.ref 70), some (.int l1), some (.int l2), some (.int l3), some (.int l4), some (.int l5), some (.int l6), none] [.int l4] S) := by
  refine zs_run (L' := [some (.ref 70), some (.int l1), some (.int l2), some (.int l3), some (.int l4), some (.int l5), some (.int l6), none]) rfl rfl ?_
  exact zs_iload rfl (zs_bipush (v := nI 16) rfl (zs_ic_ge rfl (zs_iload rfl (zs_goto rfl))))
set_option maxRecDepth 100000 in
theorem zq_115_74 (d n z : Nat) (l1 : Int32) (l2 : Int32) (l3 : Int32) (l4 : Int32) (l5 : Int32) (l6 : Int32) (d7 : Option Value) (S : z_St) : z_R115 d (n + 1) 74 z [some (.ref 70), some (.int l1), some (.int l2), some (.int l3), some (.int l4), some (.int l5), some (.int l6), d7] [] S = z_R115 d n 76 z [some (.ref 70), some (.int l1), some (.int l2), some (.int l3), some (.int l4), some (.int l5), some (.int l6), none] [.int l5] S := by
  refine zs_run (L' := [some (.ref 70), some (.int l1), some (.int l2), some (.int l3), some (.int l4), some (.int l5), some (.int l6), none]) rfl rfl ?_
  exact zs_iload rfl (zs_nil rfl)
set_option maxRecDepth 100000 in
theorem zq_115_76 (d n z : Nat) (l1 : Int32) (l2 : Int32) (l3 : Int32) (l4 : Int32) (l5 : Int32) (l6 : Int32) (t0 : Int32) (d7 : Option Value) (S : z_St) : z_R115 d (n + 1) 76 z [some (.ref 70), some (.int l1), some (.int l2), some (.int l3), some (.int l4), some (.int l5), some (.int l6), d7] [.int t0] S = cond (z_ix (S.1 70 17) 700) (z_R115 d n 23 z [some (.ref 70), some (.int l1), some (.int l2), some (.int l3), some (.int l4), some (.int l5), some (.int (l6 + (nI 1))), some (.int t0)] [] ((z_w1 (z_w1 S.1 82 (((S.1 70 17)).toNatClampNeg) ((t0 >>> (((nI 24) - ((nI 8) * (l6 - l6 / (nI 4) * (nI 4)))) &&& 31)) &&& (nI 255))) 70 17 ((S.1 70 17) + (nI 1))), S.2)) none := by
  refine zs_run (L' := [some (.ref 70), some (.int l1), some (.int l2), some (.int l3), some (.int l4), some (.int l5), some (.int l6), none]) rfl rfl ?_
  exact zs_istore (L' := [some (.ref 70), some (.int l1), some (.int l2), some (.int l3), some (.int l4), some (.int l5), some (.int l6), some (.int t0)]) rfl rfl (zs_aload_n rfl (zs_get2 (b := 82) rfl rfl (zs_aload_n rfl (zs_get0 (x := (S.1 70 17)) rfl rfl (zs_iload rfl (zs_bipush (v := nI 24) rfl (zs_bipush (v := nI 8) rfl (zs_iload rfl (zs_iconst (v := nI 4) rfl (zs_iremc (nI_ne0 (by decide) (by decide)) (zs_imul (zs_isub (zs_ishr (zs_sipush (v := nI 255) rfl (zs_iand (zs_ias (S' := ((z_w1 S.1 82 (((S.1 70 17)).toNatClampNeg) ((t0 >>> (((nI 24) - ((nI 8) * (l6 - l6 / (nI 4) * (nI 4)))) &&& 31)) &&& (nI 255))), S.2)) rfl rfl rfl (zs_aload_n rfl (zs_dupr (zs_get0 (x := (S.1 70 17)) rfl rfl (zs_iconst (v := nI 1) rfl (zs_iadd (zs_put (S' := ((z_w1 (z_w1 S.1 82 (((S.1 70 17)).toNatClampNeg) ((t0 >>> (((nI 24) - ((nI 8) * (l6 - l6 / (nI 4) * (nI 4)))) &&& 31)) &&& (nI 255))) 70 17 ((S.1 70 17) + (nI 1))), S.2)) rfl rfl (zs_iinc (v := nI 1) (L' := [some (.ref 70), some (.int l1), some (.int l2), some (.int l3), some (.int l4), some (.int l5), some (.int (l6 + (nI 1))), some (.int t0)]) rfl rfl rfl rfl (zs_goto rfl))))))))))))))))))))))))
set_option maxRecDepth 100000 in
theorem zq_115_120 (d n z : Nat)  (d1 d2 d3 d4 d5 d6 d7 : Option Value) (S : z_St) : z_R115 d (n + 1) 120 z [some (.ref 70), d1, d2, d3, d4, d5, d6, d7] [] S = some (.inl (some (.int (S.1 70 17))), S) := by
  refine zs_run (L' := [some (.ref 70), none, none, none, none, none, none, none]) rfl rfl ?_
  exact zs_aload_n rfl (zs_get0 (x := (S.1 70 17)) rfl rfl (zs_iret rfl))
/-- SlipRoomModel.byteAt(I)I -/
noncomputable def z_R116 (d : Nat) : Nat → z_K := z_run false (some .int) [] (z_ew d) z_b116
theorem ze_116 (d : Nat) (as : List Value) (S : z_St) (h : Nat.ble (z_sl as).length 2 = true) : z_ew (d + 1) 116 as S = z_R116 d z_fuel 0 0 (z_in 2 as) [] S := zs_ew h
set_option maxRecDepth 100000 in
theorem zq_116_0 (d n z : Nat) (l1 : Int32) (S : z_St) : z_R116 d (n + 1) 0 z [some (.ref 70), some (.int l1)] [] S = if (S.1 70 19) ≤ l1 then (z_R116 d n 17 z [some (.ref 70), some (.int l1)] [] S) else (cond (z_ix l1 700) (z_R116 d n 18 z [some (.ref 70), some (.int l1)] [.int (S.1 82 ((l1).toNatClampNeg))] S) none) := by
  refine zs_run (L' := [some (.ref 70), some (.int l1)]) rfl rfl ?_
  exact zs_iload_n rfl (zs_aload_n rfl (zs_get0 (x := (S.1 70 19)) rfl rfl (zs_ic_ge rfl (zs_aload_n rfl (zs_get2 (b := 82) rfl rfl (zs_iload_n rfl (zs_ia (v := (S.1 82 ((l1).toNatClampNeg))) rfl rfl rfl rfl (zs_goto rfl))))))))
set_option maxRecDepth 100000 in
theorem zq_116_17 (d n z : Nat)  (d0 d1 : Option Value) (S : z_St) : z_R116 d (n + 1) 17 z [d0, d1] [] S = z_R116 d n 18 z [none, none] [.int (-nI 1)] S := by
  refine zs_run (L' := [none, none]) rfl rfl ?_
  exact zs_iconst (v := (-nI 1)) rfl (zs_nil rfl)
set_option maxRecDepth 100000 in
theorem zq_116_18 (d n z : Nat) (t0 : Int32) (d0 d1 : Option Value) (S : z_St) : z_R116 d (n + 1) 18 z [d0, d1] [.int t0] S = some (.inl (some (.int t0)), S) := by
  refine zs_run (L' := [none, none]) rfl rfl ?_
  exact zs_iret rfl
/-- SlipRoomModel.isLetter(I)Z -/
noncomputable def z_R117 (d : Nat) : Nat → z_K := z_run false (some .boolean) [] (z_ew d) z_b117
theorem ze_117 (d : Nat) (as : List Value) (S : z_St) (h : Nat.ble (z_sl as).length 1 = true) : z_ew (d + 1) 117 as S = z_R117 d z_fuel 0 0 (z_in 1 as) [] S := zs_ew h
set_option maxRecDepth 100000 in
theorem zq_117_0 (d n z : Nat) (l0 : Int32) (S : z_St) : z_R117 d (n + 1) 0 z [some (.int l0)] [] S = if l0 < (nI 97) then (z_R117 d n 16 z [some (.int l0)] [] S) else (if (nI 122) < l0 then (z_R117 d n 16 z [some (.int l0)] [] S) else (z_R117 d n 17 z [some (.int l0)] [.int (nI 1)] S)) := by
  refine zs_run (L' := [some (.int l0)]) rfl rfl ?_
  exact zs_iload_n rfl (zs_bipush (v := nI 97) rfl (zs_ic_lt rfl (zs_iload_n rfl (zs_bipush (v := nI 122) rfl (zs_ic_gt rfl (zs_iconst (v := nI 1) rfl (zs_goto rfl)))))))
set_option maxRecDepth 100000 in
theorem zq_117_16 (d n z : Nat)  (d0 : Option Value) (S : z_St) : z_R117 d (n + 1) 16 z [d0] [] S = z_R117 d n 17 z [none] [.int (nI 0)] S := by
  refine zs_run (L' := [none]) rfl rfl ?_
  exact zs_iconst (v := nI 0) rfl (zs_nil rfl)
set_option maxRecDepth 100000 in
theorem zq_117_17 (d n z : Nat) (t0 : Int32) (d0 : Option Value) (S : z_St) : z_R117 d (n + 1) 17 z [d0] [.int t0] S = cond (z_rb (some .boolean) t0) (some (.inl (some (.int t0)), S)) none := by
  refine zs_run (L' := [none]) rfl rfl ?_
  exact zs_iretc
/-- SlipRoomModel.isDigit(I)Z -/
noncomputable def z_R118 (d : Nat) : Nat → z_K := z_run false (some .boolean) [] (z_ew d) z_b118
theorem ze_118 (d : Nat) (as : List Value) (S : z_St) (h : Nat.ble (z_sl as).length 1 = true) : z_ew (d + 1) 118 as S = z_R118 d z_fuel 0 0 (z_in 1 as) [] S := zs_ew h
set_option maxRecDepth 100000 in
theorem zq_118_0 (d n z : Nat) (l0 : Int32) (S : z_St) : z_R118 d (n + 1) 0 z [some (.int l0)] [] S = if l0 < (nI 48) then (z_R118 d n 16 z [some (.int l0)] [] S) else (if (nI 57) < l0 then (z_R118 d n 16 z [some (.int l0)] [] S) else (z_R118 d n 17 z [some (.int l0)] [.int (nI 1)] S)) := by
  refine zs_run (L' := [some (.int l0)]) rfl rfl ?_
  exact zs_iload_n rfl (zs_bipush (v := nI 48) rfl (zs_ic_lt rfl (zs_iload_n rfl (zs_bipush (v := nI 57) rfl (zs_ic_gt rfl (zs_iconst (v := nI 1) rfl (zs_goto rfl)))))))
set_option maxRecDepth 100000 in
theorem zq_118_16 (d n z : Nat)  (d0 : Option Value) (S : z_St) : z_R118 d (n + 1) 16 z [d0] [] S = z_R118 d n 17 z [none] [.int (nI 0)] S := by
  refine zs_run (L' := [none]) rfl rfl ?_
  exact zs_iconst (v := nI 0) rfl (zs_nil rfl)
set_option maxRecDepth 100000 in
theorem zq_118_17 (d n z : Nat) (t0 : Int32) (d0 : Option Value) (S : z_St) : z_R118 d (n + 1) 17 z [d0] [.int t0] S = cond (z_rb (some .boolean) t0) (some (.inl (some (.int t0)), S)) none := by
  refine zs_run (L' := [none]) rfl rfl ?_
  exact zs_iretc
/-- SlipRoomModel.isMark(I)Z -/
noncomputable def z_R119 (d : Nat) : Nat → z_K := z_run false (some .boolean) [] (z_ew d) z_b119
theorem ze_119 (d : Nat) (as : List Value) (S : z_St) (h : Nat.ble (z_sl as).length 1 = true) : z_ew (d + 1) 119 as S = z_R119 d z_fuel 0 0 (z_in 1 as) [] S := zs_ew h
set_option maxRecDepth 100000 in
theorem zq_119_0 (d n z : Nat) (l0 : Int32) (S : z_St) : z_R119 d (n + 1) 0 z [some (.int l0)] [] S = if l0 = (nI 59) then (z_R119 d n 54 z [some (.int l0)] [] S) else (if l0 = (nI 40) then (z_R119 d n 54 z [some (.int l0)] [] S) else (if l0 = (nI 41) then (z_R119 d n 54 z [some (.int l0)] [] S) else (if l0 = (nI 43) then (z_R119 d n 54 z [some (.int l0)] [] S) else (if l0 = (nI 45) then (z_R119 d n 54 z [some (.int l0)] [] S) else (if l0 = (nI 42) then (z_R119 d n 54 z [some (.int l0)] [] S) else (if l0 = (nI 47) then (z_R119 d n 54 z [some (.int l0)] [] S) else (if l0 = (nI 60) then (z_R119 d n 54 z [some (.int l0)] [] S) else (if l0 = (nI 61) then (z_R119 d n 54 z [some (.int l0)] [] S) else (z_R119 d n 58 z [some (.int l0)] [] S))))))))) := by
  refine zs_run (L' := [some (.int l0)]) rfl rfl ?_
  exact zs_iload_n rfl (zs_bipush (v := nI 59) rfl (zs_ic_eq rfl (zs_iload_n rfl (zs_bipush (v := nI 40) rfl (zs_ic_eq rfl (zs_iload_n rfl (zs_bipush (v := nI 41) rfl (zs_ic_eq rfl (zs_iload_n rfl (zs_bipush (v := nI 43) rfl (zs_ic_eq rfl (zs_iload_n rfl (zs_bipush (v := nI 45) rfl (zs_ic_eq rfl (zs_iload_n rfl (zs_bipush (v := nI 42) rfl (zs_ic_eq rfl (zs_iload_n rfl (zs_bipush (v := nI 47) rfl (zs_ic_eq rfl (zs_iload_n rfl (zs_bipush (v := nI 60) rfl (zs_ic_eq rfl (zs_iload_n rfl (zs_bipush (v := nI 61) rfl (zs_ic_ne rfl (zs_nil rfl)))))))))))))))))))))))))))
set_option maxRecDepth 100000 in
theorem zq_119_54 (d n z : Nat)  (d0 : Option Value) (S : z_St) : z_R119 d (n + 1) 54 z [d0] [] S = z_R119 d n 59 z [none] [.int (nI 1)] S := by
  refine zs_run (L' := [none]) rfl rfl ?_
  exact zs_iconst (v := nI 1) rfl (zs_goto rfl)
set_option maxRecDepth 100000 in
theorem zq_119_58 (d n z : Nat)  (d0 : Option Value) (S : z_St) : z_R119 d (n + 1) 58 z [d0] [] S = z_R119 d n 59 z [none] [.int (nI 0)] S := by
  refine zs_run (L' := [none]) rfl rfl ?_
  exact zs_iconst (v := nI 0) rfl (zs_nil rfl)
set_option maxRecDepth 100000 in
theorem zq_119_59 (d n z : Nat) (t0 : Int32) (d0 : Option Value) (S : z_St) : z_R119 d (n + 1) 59 z [d0] [.int t0] S = cond (z_rb (some .boolean) t0) (some (.inl (some (.int t0)), S)) none := by
  refine zs_run (L' := [none]) rfl rfl ?_
  exact zs_iretc
/-- SlipRoomModel.stepOn()V -/
noncomputable def z_R120 (d : Nat) : Nat → z_K := z_run false none [] (z_ew d) z_b120
theorem ze_120 (d : Nat) (as : List Value) (S : z_St) (h : Nat.ble (z_sl as).length 2 = true) : z_ew (d + 1) 120 as S = z_R120 d z_fuel 0 0 (z_in 2 as) [] S := zs_ew h
set_option maxRecDepth 100000 in
theorem zq_120_0 (d n z : Nat)  (d1 : Option Value) (S : z_St) : z_R120 d (n + 1) 0 z [some (.ref 70), d1] [] S = z_cli (z_ew d 116 [.ref 70, .int (S.1 70 18)] S) (fun x2 S1 => if x2 = (nI 32) then (z_R120 d n 26 z [some (.ref 70), none] [] S1) else (z_cli (z_ew d 116 [.ref 70, .int (S1.1 70 18)] S1) (fun x4 S3 => if x4 = (nI 10) then (z_R120 d n 26 z [some (.ref 70), none] [] S3) else (z_R120 d n 39 z [some (.ref 70), none] [] S3)) (z_hnd []))) (z_hnd []) := by
  refine zs_run (L' := [some (.ref 70), none]) rfl rfl ?_
  exact zs_aload_n rfl (zs_aload_n rfl (zs_get0 (x := (S.1 70 18)) rfl rfl (zs_Vi rfl rfl (Or.inr ⟨Or.inl rfl, _, _, rfl, rfl⟩) (fun x2 S1 => zs_bipush (v := nI 32) rfl (zs_ic_eq rfl (zs_aload_n rfl (zs_aload_n rfl (zs_get0 (x := (S1.1 70 18)) rfl rfl (zs_Vi rfl rfl (Or.inr ⟨Or.inl rfl, _, _, rfl, rfl⟩) (fun x4 S3 => zs_bipush (v := nI 10) rfl (zs_ic_ne rfl (zs_nil rfl))) (fun _ _ => rfl))))))) (fun _ _ => rfl))))
set_option maxRecDepth 100000 in
theorem zq_120_26 (d n z : Nat)  (d1 : Option Value) (S : z_St) : z_R120 d (n + 1) 26 z [some (.ref 70), d1] [] S = z_R120 d n 0 z [some (.ref 70), none] [] ((z_w1 S.1 70 18 ((S.1 70 18) + (nI 1))), S.2) := by
  refine zs_run (L' := [some (.ref 70), none]) rfl rfl ?_
  exact zs_aload_n rfl (zs_dupr (zs_get0 (x := (S.1 70 18)) rfl rfl (zs_iconst (v := nI 1) rfl (zs_iadd (zs_put (S' := ((z_w1 S.1 70 18 ((S.1 70 18) + (nI 1))), S.2)) rfl rfl (zs_goto rfl))))))
set_option maxRecDepth 100000 in
theorem zq_120_39 (d n z : Nat)  (d1 : Option Value) (S : z_St) : z_R120 d (n + 1) 39 z [some (.ref 70), d1] [] S = z_cli (z_ew d 116 [.ref 70, .int (S.1 70 18)] ((z_w1 S.1 70 22 (S.1 70 18)), S.2)) (fun x2 S1 => if x2 = (-nI 1) then (z_R120 d n 212 z [some (.ref 70), some (.int x2)] [] ((z_w1 S1.1 70 20 (nI 0)), S1.2)) else (z_R120 d n 69 z [some (.ref 70), some (.int x2)] [] S1)) (z_hnd []) := by
  refine zs_run (L' := [some (.ref 70), none]) rfl rfl ?_
  exact zs_aload_n rfl (zs_aload_n rfl (zs_get0 (x := (S.1 70 18)) rfl rfl (zs_put (S' := ((z_w1 S.1 70 22 (S.1 70 18)), S.2)) rfl rfl (zs_aload_n rfl (zs_aload_n rfl (zs_get0 (x := (S.1 70 18)) rfl rfl (zs_Vi rfl rfl (Or.inr ⟨Or.inl rfl, _, _, rfl, rfl⟩) (fun x2 S1 => zs_istore_n (L' := [some (.ref 70), some (.int x2)]) rfl rfl (zs_iload_n rfl (zs_iconst (v := (-nI 1)) rfl (zs_ic_ne rfl (zs_aload_n rfl (zs_iconst (v := nI 0) rfl (zs_put (S' := ((z_w1 S1.1 70 20 (nI 0)), S1.2)) rfl rfl (zs_goto rfl)))))))) (fun _ _ => rfl))))))))
set_option maxRecDepth 100000 in
theorem zq_120_69 (d n z : Nat) (l1 : Int32) (S : z_St) : z_R120 d (n + 1) 69 z [some (.ref 70), some (.int l1)] [] S = z_cli (z_ew d 117 [.int l1] S) (fun x2 S1 => if x2 = 0 then (z_R120 d n 111 z [some (.ref 70), some (.int l1)] [] S1) else (z_R120 d n 76 z [some (.ref 70), some (.int l1)] [] S1)) (z_hnd []) := by
  refine zs_run (L' := [some (.ref 70), some (.int l1)]) rfl rfl ?_
  exact zs_iload_n rfl (zs_Si rfl rfl (Or.inl (Or.inl rfl)) (fun x2 S1 => zs_if_eq rfl (zs_nil rfl)) (fun _ _ => rfl))
set_option maxRecDepth 100000 in
theorem zq_120_76 (d n z : Nat)  (d1 : Option Value) (S : z_St) : z_R120 d (n + 1) 76 z [some (.ref 70), d1] [] S = z_cli (z_ew d 116 [.ref 70, .int (S.1 70 18)] S) (fun x2 S1 => z_cli (z_ew d 117 [.int x2] S1) (fun x4 S3 => if x4 = 0 then (z_R120 d n 103 z [some (.ref 70), none] [] S3) else (z_R120 d n 76 z [some (.ref 70), none] [] ((z_w1 S3.1 70 18 ((S3.1 70 18) + (nI 1))), S3.2))) (z_hnd [])) (z_hnd []) := by
  refine zs_run (L' := [some (.ref 70), none]) rfl rfl ?_
  exact zs_aload_n rfl (zs_aload_n rfl (zs_get0 (x := (S.1 70 18)) rfl rfl (zs_Vi rfl rfl (Or.inr ⟨Or.inl rfl, _, _, rfl, rfl⟩) (fun x2 S1 => zs_Si rfl rfl (Or.inl (Or.inl rfl)) (fun x4 S3 => zs_if_eq rfl (zs_aload_n rfl (zs_dupr (zs_get0 (x := (S3.1 70 18)) rfl rfl (zs_iconst (v := nI 1) rfl (zs_iadd (zs_put (S' := ((z_w1 S3.1 70 18 ((S3.1 70 18) + (nI 1))), S3.2)) rfl rfl (zs_goto rfl)))))))) (fun _ _ => rfl)) (fun _ _ => rfl))))
set_option maxRecDepth 100000 in
theorem zq_120_103 (d n z : Nat)  (d1 : Option Value) (S : z_St) : z_R120 d (n + 1) 103 z [some (.ref 70), d1] [] S = z_R120 d n 212 z [some (.ref 70), none] [] ((z_w1 S.1 70 20 (nI 1)), S.2) := by
  refine zs_run (L' := [some (.ref 70), none]) rfl rfl ?_
  exact zs_aload_n rfl (zs_iconst (v := nI 1) rfl (zs_put (S' := ((z_w1 S.1 70 20 (nI 1)), S.2)) rfl rfl (zs_goto rfl)))
set_option maxRecDepth 100000 in
theorem zq_120_111 (d n z : Nat) (l1 : Int32) (S : z_St) : z_R120 d (n + 1) 111 z [some (.ref 70), some (.int l1)] [] S = z_cli (z_ew d 118 [.int l1] S) (fun x2 S1 => if x2 = 0 then (z_R120 d n 186 z [some (.ref 70), some (.int l1)] [] S1) else (z_R120 d n 123 z [some (.ref 70), some (.int l1)] [] ((z_w1 S1.1 70 21 (nI 0)), S1.2))) (z_hnd []) := by
  refine zs_run (L' := [some (.ref 70), some (.int l1)]) rfl rfl ?_
  exact zs_iload_n rfl (zs_Si rfl rfl (Or.inl (Or.inl rfl)) (fun x2 S1 => zs_if_eq rfl (zs_aload_n rfl (zs_iconst (v := nI 0) rfl (zs_put (S' := ((z_w1 S1.1 70 21 (nI 0)), S1.2)) rfl rfl (zs_nil rfl))))) (fun _ _ => rfl))
set_option maxRecDepth 100000 in
theorem zq_120_123 (d n z : Nat)  (d1 : Option Value) (S : z_St) : z_R120 d (n + 1) 123 z [some (.ref 70), d1] [] S = z_cli (z_ew d 116 [.ref 70, .int (S.1 70 18)] S) (fun x2 S1 => z_cli (z_ew d 118 [.int x2] S1) (fun x4 S3 => if x4 = 0 then (z_R120 d n 178 z [some (.ref 70), none] [] S3) else (z_cli (z_ew d 116 [.ref 70, .int (S3.1 70 18)] S3) (fun x6 S5 => z_cli (z_ew d 188 [.int (nI 100000), .int ((((nI 10) * (S3.1 70 21)) + x6) - (nI 48))] S5) (fun x8 S7 => z_R120 d n 123 z [some (.ref 70), none] [] ((z_w1 (z_w1 S7.1 70 21 x8) 70 18 ((S7.1 70 18) + (nI 1))), S7.2)) (z_hnd [])) (z_hnd []))) (z_hnd [])) (z_hnd []) := by
  refine zs_run (L' := [some (.ref 70), none]) rfl rfl ?_
  exact zs_aload_n rfl (zs_aload_n rfl (zs_get0 (x := (S.1 70 18)) rfl rfl (zs_Vi rfl rfl (Or.inr ⟨Or.inl rfl, _, _, rfl, rfl⟩) (fun x2 S1 => zs_Si rfl rfl (Or.inl (Or.inl rfl)) (fun x4 S3 => zs_if_eq rfl (zs_aload_n rfl (zs_ldc0 (zs_bipush (v := nI 10) rfl (zs_aload_n rfl (zs_get0 (x := (S3.1 70 21)) rfl rfl (zs_imul (zs_aload_n rfl (zs_aload_n rfl (zs_get0 (x := (S3.1 70 18)) rfl rfl (zs_Vi rfl rfl (Or.inr ⟨Or.inl rfl, _, _, rfl, rfl⟩) (fun x6 S5 => zs_iadd (zs_bipush (v := nI 48) rfl (zs_isub (zs_Si rfl rfl (Or.inl (Or.inl rfl)) (fun x8 S7 => zs_put (S' := ((z_w1 S7.1 70 21 x8), S7.2)) rfl rfl (zs_aload_n rfl (zs_dupr (zs_get0 (x := (S7.1 70 18)) rfl rfl (zs_iconst (v := nI 1) rfl (zs_iadd (zs_put (S' := ((z_w1 (z_w1 S7.1 70 21 x8) 70 18 ((S7.1 70 18) + (nI 1))), S7.2)) rfl rfl (zs_goto rfl)))))))) (fun _ _ => rfl))))) (fun _ _ => rfl)))))))))))) (fun _ _ => rfl)) (fun _ _ => rfl))))
set_option maxRecDepth 100000 in
theorem zq_120_178 (d n z : Nat)  (d1 : Option Value) (S : z_St) : z_R120 d (n + 1) 178 z [some (.ref 70), d1] [] S = z_R120 d n 212 z [some (.ref 70), none] [] ((z_w1 S.1 70 20 (nI 2)), S.2) := by
  refine zs_run (L' := [some (.ref 70), none]) rfl rfl ?_
  exact zs_aload_n rfl (zs_iconst (v := nI 2) rfl (zs_put (S' := ((z_w1 S.1 70 20 (nI 2)), S.2)) rfl rfl (zs_goto rfl)))
set_option maxRecDepth 100000 in
theorem zq_120_186 (d n z : Nat) (l1 : Int32) (S : z_St) : z_R120 d (n + 1) 186 z [some (.ref 70), some (.int l1)] [] S = z_cli (z_ew d 119 [.int l1] ((z_w1 S.1 70 18 ((S.1 70 18) + (nI 1))), S.2)) (fun x2 S1 => if x2 = 0 then (z_R120 d n 208 z [some (.ref 70), some (.int l1)] [.ref 70] S1) else (z_R120 d n 209 z [some (.ref 70), some (.int l1)] [.int (nI 3), .ref 70] S1)) (z_hnd []) := by
  refine zs_run (L' := [some (.ref 70), some (.int l1)]) rfl rfl ?_
  exact zs_aload_n rfl (zs_dupr (zs_get0 (x := (S.1 70 18)) rfl rfl (zs_iconst (v := nI 1) rfl (zs_iadd (zs_put (S' := ((z_w1 S.1 70 18 ((S.1 70 18) + (nI 1))), S.2)) rfl rfl (zs_aload_n rfl (zs_iload_n rfl (zs_Si rfl rfl (Or.inl (Or.inl rfl)) (fun x2 S1 => zs_if_eq rfl (zs_iconst (v := nI 3) rfl (zs_goto rfl))) (fun _ _ => rfl)))))))))
set_option maxRecDepth 100000 in
theorem zq_120_208 (d n z : Nat)  (d1 : Option Value) (S : z_St) : z_R120 d (n + 1) 208 z [some (.ref 70), d1] [.ref 70] S = z_R120 d n 209 z [some (.ref 70), none] [.int (nI 4), .ref 70] S := by
  refine zs_run (L' := [some (.ref 70), none]) rfl rfl ?_
  exact zs_iconst (v := nI 4) rfl (zs_nil rfl)
set_option maxRecDepth 100000 in
theorem zq_120_209 (d n z : Nat) (t0 : Int32) (d1 : Option Value) (S : z_St) : z_R120 d (n + 1) 209 z [some (.ref 70), d1] [.int t0, .ref 70] S = z_R120 d n 212 z [some (.ref 70), none] [] ((z_w1 S.1 70 20 t0), S.2) := by
  refine zs_run (L' := [some (.ref 70), none]) rfl rfl ?_
  exact zs_put (S' := ((z_w1 S.1 70 20 t0), S.2)) rfl rfl (zs_nil rfl)
set_option maxRecDepth 100000 in
theorem zq_120_212 (d n z : Nat)  (d1 : Option Value) (S : z_St) : z_R120 d (n + 1) 212 z [some (.ref 70), d1] [] S = some (.inl none, ((z_w1 S.1 70 23 (S.1 70 18)), S.2)) := by
  refine zs_run (L' := [some (.ref 70), none]) rfl rfl ?_
  exact zs_aload_n rfl (zs_aload_n rfl (zs_get0 (x := (S.1 70 18)) rfl rfl (zs_put (S' := ((z_w1 S.1 70 23 (S.1 70 18)), S.2)) rfl rfl (zs_ret rfl))))
/-- SlipRoomModel.wrong(I)V -/
noncomputable def z_R121 (d : Nat) : Nat → z_K := z_run false none [] (z_ew d) z_b121
theorem ze_121 (d : Nat) (as : List Value) (S : z_St) (h : Nat.ble (z_sl as).length 2 = true) : z_ew (d + 1) 121 as S = z_R121 d z_fuel 0 0 (z_in 2 as) [] S := zs_ew h
set_option maxRecDepth 100000 in
theorem zq_121_0 (d n z : Nat) (l1 : Int32) (S : z_St) : z_R121 d (n + 1) 0 z [some (.ref 70), some (.int l1)] [] S = if (S.1 70 24) = 0 then (z_R121 d n 8 z [some (.ref 70), some (.int l1)] [] S) else (some (.inl none, S)) := by
  refine zs_run (L' := [some (.ref 70), some (.int l1)]) rfl rfl ?_
  exact zs_aload_n rfl (zs_get0 (x := (S.1 70 24)) rfl rfl (zs_if_eq rfl (zs_ret rfl)))
set_option maxRecDepth 100000 in
theorem zq_121_8 (d n z : Nat) (l1 : Int32) (S : z_St) : z_R121 d (n + 1) 8 z [some (.ref 70), some (.int l1)] [] S = some (.inl none, ((z_w1 (z_w1 S.1 70 24 l1) 70 25 (S.1 70 22)), S.2)) := by
  refine zs_run (L' := [some (.ref 70), some (.int l1)]) rfl rfl ?_
  exact zs_aload_n rfl (zs_iload_n rfl (zs_put (S' := ((z_w1 S.1 70 24 l1), S.2)) rfl rfl (zs_aload_n rfl (zs_aload_n rfl (zs_get0 (x := (S.1 70 22)) rfl rfl (zs_put (S' := ((z_w1 (z_w1 S.1 70 24 l1) 70 25 (S.1 70 22)), S.2)) rfl rfl (zs_ret rfl)))))))
/-- SlipRoomModel.is(Ljava/lang/String;)Z -/
noncomputable def z_R122 (d : Nat) : Nat → z_K := z_run false (some .boolean) [] (z_ew d) z_b122
theorem ze_122 (d : Nat) (as : List Value) (S : z_St) (h : Nat.ble (z_sl as).length 4 = true) : z_ew (d + 1) 122 as S = z_R122 d z_fuel 0 0 (z_in 4 as) [] S := zs_ew h
set_option maxRecDepth 100000 in
theorem zq_122_0 (d n z : Nat) (r1 : Nat) (d2 d3 : Option Value) (S : z_St) : z_R122 d (n + 1) 0 z [some (.ref 70), some (.ref r1), d2, d3] [] S = if (S.1 70 24) = 0 then (if (S.1 70 20) = (nI 1) then (cond (Nat.ble 1200 r1 && Nat.blt r1 1217) (if (nI ((z_tx.getD (r1 - 1200) []).length)) = ((S.1 70 23) - (S.1 70 22)) then (z_R122 d n 36 z [some (.ref 70), some (.ref r1), none, none] [.int (nI 1)] S) else (z_R122 d n 35 z [some (.ref 70), some (.ref r1), none, none] [] S)) none) else (z_R122 d n 35 z [some (.ref 70), some (.ref r1), none, none] [] S)) else (z_R122 d n 35 z [some (.ref 70), some (.ref r1), none, none] [] S) := by
  refine zs_run (L' := [some (.ref 70), some (.ref r1), none, none]) rfl rfl ?_
  exact zs_aload_n rfl (zs_get0 (x := (S.1 70 24)) rfl rfl (zs_if_ne rfl (zs_aload_n rfl (zs_get0 (x := (S.1 70 20)) rfl rfl (zs_iconst (v := nI 1) rfl (zs_ic_ne rfl (zs_aload_n rfl (zs_slen rfl rfl (zs_aload_n rfl (zs_get0 (x := (S.1 70 23)) rfl rfl (zs_aload_n rfl (zs_get0 (x := (S.1 70 22)) rfl rfl (zs_isub (zs_ic_ne rfl (zs_iconst (v := nI 1) rfl (zs_goto rfl))))))))))))))))
set_option maxRecDepth 100000 in
theorem zq_122_35 (d n z : Nat) (r1 : Nat) (d2 d3 : Option Value) (S : z_St) : z_R122 d (n + 1) 35 z [some (.ref 70), some (.ref r1), d2, d3] [] S = z_R122 d n 36 z [some (.ref 70), some (.ref r1), none, none] [.int (nI 0)] S := by
  refine zs_run (L' := [some (.ref 70), some (.ref r1), none, none]) rfl rfl ?_
  exact zs_iconst (v := nI 0) rfl (zs_nil rfl)
set_option maxRecDepth 100000 in
theorem zq_122_36 (d n z : Nat) (r1 : Nat) (t0 : Int32) (d2 d3 : Option Value) (S : z_St) : z_R122 d (n + 1) 36 z [some (.ref 70), some (.ref r1), d2, d3] [.int t0] S = z_R122 d n 39 z [some (.ref 70), some (.ref r1), some (.int t0), some (.int (nI 0))] [] S := by
  refine zs_run (L' := [some (.ref 70), some (.ref r1), none, none]) rfl rfl ?_
  exact zs_istore_n (L' := [some (.ref 70), some (.ref r1), some (.int t0), none]) rfl rfl (zs_iconst (v := nI 0) rfl (zs_istore_n (L' := [some (.ref 70), some (.ref r1), some (.int t0), some (.int (nI 0))]) rfl rfl (zs_nil rfl)))
set_option maxRecDepth 100000 in
theorem zq_122_39 (d n z : Nat) (r1 : Nat) (l2 : Int32) (l3 : Int32) (S : z_St) : z_R122 d (n + 1) 39 z [some (.ref 70), some (.ref r1), some (.int l2), some (.int l3)] [] S = if l2 = 0 then (z_R122 d n 82 z [some (.ref 70), some (.ref r1), some (.int l2), some (.int l3)] [] S) else (cond (Nat.ble 1200 r1 && Nat.blt r1 1217) (if (nI ((z_tx.getD (r1 - 1200) []).length)) ≤ l3 then (z_R122 d n 82 z [some (.ref 70), some (.ref r1), some (.int l2), some (.int l3)] [] S) else (cond (Nat.ble 1200 r1 && Nat.blt r1 1217 && z_ix l3 (z_tx.getD (r1 - 1200) []).length) (cond (z_ix ((S.1 70 22) + l3) 700) (if ((z_tx.getD (r1 - 1200) []).getD (l3).toNatClampNeg 0) = (S.1 82 ((((S.1 70 22) + l3)).toNatClampNeg)) then (z_R122 d n 75 z [some (.ref 70), some (.ref r1), some (.int l2), some (.int l3)] [.int (nI 1)] S) else (z_R122 d n 74 z [some (.ref 70), some (.ref r1), some (.int l2), some (.int l3)] [] S)) none) none)) none) := by
  refine zs_run (L' := [some (.ref 70), some (.ref r1), some (.int l2), some (.int l3)]) rfl rfl ?_
  exact zs_iload_n rfl (zs_if_eq rfl (zs_iload_n rfl (zs_aload_n rfl (zs_slen rfl rfl (zs_ic_ge rfl (zs_aload_n rfl (zs_iload_n rfl (zs_schr rfl rfl (zs_aload_n rfl (zs_get2 (b := 82) rfl rfl (zs_aload_n rfl (zs_get0 (x := (S.1 70 22)) rfl rfl (zs_iload_n rfl (zs_iadd (zs_ia (v := (S.1 82 ((((S.1 70 22) + l3)).toNatClampNeg))) rfl rfl rfl rfl (zs_ic_ne rfl (zs_iconst (v := nI 1) rfl (zs_goto rfl))))))))))))))))))
set_option maxRecDepth 100000 in
theorem zq_122_74 (d n z : Nat) (r1 : Nat) (l3 : Int32) (d2 : Option Value) (S : z_St) : z_R122 d (n + 1) 74 z [some (.ref 70), some (.ref r1), d2, some (.int l3)] [] S = z_R122 d n 75 z [some (.ref 70), some (.ref r1), none, some (.int l3)] [.int (nI 0)] S := by
  refine zs_run (L' := [some (.ref 70), some (.ref r1), none, some (.int l3)]) rfl rfl ?_
  exact zs_iconst (v := nI 0) rfl (zs_nil rfl)
set_option maxRecDepth 100000 in
theorem zq_122_75 (d n z : Nat) (r1 : Nat) (l3 : Int32) (t0 : Int32) (d2 : Option Value) (S : z_St) : z_R122 d (n + 1) 75 z [some (.ref 70), some (.ref r1), d2, some (.int l3)] [.int t0] S = z_R122 d n 39 z [some (.ref 70), some (.ref r1), some (.int t0), some (.int (l3 + (nI 1)))] [] S := by
  refine zs_run (L' := [some (.ref 70), some (.ref r1), none, some (.int l3)]) rfl rfl ?_
  exact zs_istore_n (L' := [some (.ref 70), some (.ref r1), some (.int t0), some (.int l3)]) rfl rfl (zs_iinc (v := nI 1) (L' := [some (.ref 70), some (.ref r1), some (.int t0), some (.int (l3 + (nI 1)))]) rfl rfl rfl rfl (zs_goto rfl))
set_option maxRecDepth 100000 in
theorem zq_122_82 (d n z : Nat) (l2 : Int32) (d0 d1 d3 : Option Value) (S : z_St) : z_R122 d (n + 1) 82 z [d0, d1, some (.int l2), d3] [] S = cond (z_rb (some .boolean) l2) (some (.inl (some (.int l2)), S)) none := by
  refine zs_run (L' := [none, none, some (.int l2), none]) rfl rfl ?_
  exact zs_iload_n rfl (zs_iretc)
/-- SlipRoomModel.isMarked(I)Z -/
noncomputable def z_R123 (d : Nat) : Nat → z_K := z_run false (some .boolean) [] (z_ew d) z_b123
theorem ze_123 (d : Nat) (as : List Value) (S : z_St) (h : Nat.ble (z_sl as).length 2 = true) : z_ew (d + 1) 123 as S = z_R123 d z_fuel 0 0 (z_in 2 as) [] S := zs_ew h
set_option maxRecDepth 100000 in
theorem zq_123_0 (d n z : Nat) (l1 : Int32) (S : z_St) : z_R123 d (n + 1) 0 z [some (.ref 70), some (.int l1)] [] S = if (S.1 70 24) = 0 then (if (S.1 70 20) = (nI 3) then (cond (z_ix (S.1 70 22) 700) (if (S.1 82 (((S.1 70 22)).toNatClampNeg)) = l1 then (z_R123 d n 33 z [some (.ref 70), some (.int l1)] [.int (nI 1)] S) else (z_R123 d n 32 z [some (.ref 70), some (.int l1)] [] S)) none) else (z_R123 d n 32 z [some (.ref 70), some (.int l1)] [] S)) else (z_R123 d n 32 z [some (.ref 70), some (.int l1)] [] S) := by
  refine zs_run (L' := [some (.ref 70), some (.int l1)]) rfl rfl ?_
  exact zs_aload_n rfl (zs_get0 (x := (S.1 70 24)) rfl rfl (zs_if_ne rfl (zs_aload_n rfl (zs_get0 (x := (S.1 70 20)) rfl rfl (zs_iconst (v := nI 3) rfl (zs_ic_ne rfl (zs_aload_n rfl (zs_get2 (b := 82) rfl rfl (zs_aload_n rfl (zs_get0 (x := (S.1 70 22)) rfl rfl (zs_ia (v := (S.1 82 (((S.1 70 22)).toNatClampNeg))) rfl rfl rfl rfl (zs_iload_n rfl (zs_ic_ne rfl (zs_iconst (v := nI 1) rfl (zs_goto rfl)))))))))))))))
set_option maxRecDepth 100000 in
theorem zq_123_32 (d n z : Nat)  (d0 d1 : Option Value) (S : z_St) : z_R123 d (n + 1) 32 z [d0, d1] [] S = z_R123 d n 33 z [none, none] [.int (nI 0)] S := by
  refine zs_run (L' := [none, none]) rfl rfl ?_
  exact zs_iconst (v := nI 0) rfl (zs_nil rfl)
set_option maxRecDepth 100000 in
theorem zq_123_33 (d n z : Nat) (t0 : Int32) (d0 d1 : Option Value) (S : z_St) : z_R123 d (n + 1) 33 z [d0, d1] [.int t0] S = cond (z_rb (some .boolean) t0) (some (.inl (some (.int t0)), S)) none := by
  refine zs_run (L' := [none, none]) rfl rfl ?_
  exact zs_iretc
/-- SlipRoomModel.which([Ljava/lang/String;)I -/
noncomputable def z_R124 (d : Nat) : Nat → z_K := z_run false (some .int) [] (z_ew d) z_b124
theorem ze_124 (d : Nat) (as : List Value) (S : z_St) (h : Nat.ble (z_sl as).length 3 = true) : z_ew (d + 1) 124 as S = z_R124 d z_fuel 0 0 (z_in 3 as) [] S := zs_ew h
set_option maxRecDepth 100000 in
theorem zq_124_0 (d n z : Nat)  (d2 : Option Value) (S : z_St) : z_R124 d (n + 1) 0 z [some (.ref 70), some (.ref 71), d2] [] S = z_R124 d n 2 z [some (.ref 70), some (.ref 71), some (.int (nI 0))] [] S := by
  refine zs_run (L' := [some (.ref 70), some (.ref 71), none]) rfl rfl ?_
  exact zs_iconst (v := nI 0) rfl (zs_istore_n (L' := [some (.ref 70), some (.ref 71), some (.int (nI 0))]) rfl rfl (zs_nil rfl))
set_option maxRecDepth 100000 in
theorem zq_124_2 (d n z : Nat) (l2 : Int32) (S : z_St) : z_R124 d (n + 1) 2 z [some (.ref 70), some (.ref 71), some (.int l2)] [] S = if (nI 7) ≤ l2 then (z_R124 d n 26 z [some (.ref 70), some (.ref 71), some (.int l2)] [] S) else (cond (z_ix l2 7) (z_cli (z_ew d 122 [.ref 70, .ref (z_vs.getD (l2).toNatClampNeg 0)] S) (fun x2 S1 => if x2 = 0 then (z_R124 d n 20 z [some (.ref 70), some (.ref 71), some (.int l2)] [] S1) else (some (.inl (some (.int l2)), S1))) (z_hnd [])) none) := by
  refine zs_run (L' := [some (.ref 70), some (.ref 71), some (.int l2)]) rfl rfl ?_
  exact zs_iload_n rfl (zs_aload_n rfl (zs_al rfl rfl rfl rfl (zs_ic_ge rfl (zs_aload_n rfl (zs_aload_n rfl (zs_iload_n rfl (zs_aa rfl rfl rfl (zs_Vi rfl rfl (Or.inr ⟨Or.inl rfl, _, _, rfl, rfl⟩) (fun x2 S1 => zs_if_eq rfl (zs_iload_n rfl (zs_iret rfl))) (fun _ _ => rfl)))))))))
set_option maxRecDepth 100000 in
theorem zq_124_20 (d n z : Nat) (l2 : Int32) (S : z_St) : z_R124 d (n + 1) 20 z [some (.ref 70), some (.ref 71), some (.int l2)] [] S = z_R124 d n 2 z [some (.ref 70), some (.ref 71), some (.int (l2 + (nI 1)))] [] S := by
  refine zs_run (L' := [some (.ref 70), some (.ref 71), some (.int l2)]) rfl rfl ?_
  exact zs_iinc (v := nI 1) (L' := [some (.ref 70), some (.ref 71), some (.int (l2 + (nI 1)))]) rfl rfl rfl rfl (zs_goto rfl)
set_option maxRecDepth 100000 in
theorem zq_124_26 (d n z : Nat)  (d0 d1 d2 : Option Value) (S : z_St) : z_R124 d (n + 1) 26 z [d0, d1, d2] [] S = some (.inl (some (.int (-nI 1))), S) := by
  refine zs_run (L' := [none, none, none]) rfl rfl ?_
  exact zs_iconst (v := (-nI 1)) rfl (zs_iret rfl)
/-- SlipRoomModel.passes(Ljava/lang/String;)Z -/
noncomputable def z_R125 (d : Nat) : Nat → z_K := z_run false (some .boolean) [] (z_ew d) z_b125
theorem ze_125 (d : Nat) (as : List Value) (S : z_St) (h : Nat.ble (z_sl as).length 3 = true) : z_ew (d + 1) 125 as S = z_R125 d z_fuel 0 0 (z_in 3 as) [] S := zs_ew h
set_option maxRecDepth 100000 in
theorem zq_125_0 (d n z : Nat) (r1 : Nat) (d2 : Option Value) (S : z_St) : z_R125 d (n + 1) 0 z [some (.ref 70), some (.ref r1), d2] [] S = z_cli (z_ew d 122 [.ref 70, .ref r1] S) (fun x2 S1 => if x2 = 0 then (z_R125 d n 14 z [some (.ref 70), some (.ref r1), some (.int x2)] [] S1) else (z_clv (z_ew d 120 [.ref 70] S1) (fun S3 => z_R125 d n 14 z [some (.ref 70), some (.ref r1), some (.int x2)] [] S3) (z_hnd []))) (z_hnd []) := by
  refine zs_run (L' := [some (.ref 70), some (.ref r1), none]) rfl rfl ?_
  exact zs_aload_n rfl (zs_aload_n rfl (zs_Vi rfl rfl (Or.inr ⟨Or.inl rfl, _, _, rfl, rfl⟩) (fun x2 S1 => zs_istore_n (L' := [some (.ref 70), some (.ref r1), some (.int x2)]) rfl rfl (zs_iload_n rfl (zs_if_eq rfl (zs_aload_n rfl (zs_Vv rfl rfl (Or.inr ⟨Or.inl rfl, _, _, rfl, rfl⟩) (fun S3 => zs_nil rfl) (fun _ _ => rfl)))))) (fun _ _ => rfl)))
set_option maxRecDepth 100000 in
theorem zq_125_14 (d n z : Nat) (l2 : Int32) (d0 d1 : Option Value) (S : z_St) : z_R125 d (n + 1) 14 z [d0, d1, some (.int l2)] [] S = cond (z_rb (some .boolean) l2) (some (.inl (some (.int l2)), S)) none := by
  refine zs_run (L' := [none, none, some (.int l2)]) rfl rfl ?_
  exact zs_iload_n rfl (zs_iretc)
/-- SlipRoomModel.mark(I)V -/
noncomputable def z_R126 (d : Nat) : Nat → z_K := z_run false none [] (z_ew d) z_b126
theorem ze_126 (d : Nat) (as : List Value) (S : z_St) (h : Nat.ble (z_sl as).length 2 = true) : z_ew (d + 1) 126 as S = z_R126 d z_fuel 0 0 (z_in 2 as) [] S := zs_ew h
set_option maxRecDepth 100000 in
theorem zq_126_0 (d n z : Nat) (l1 : Int32) (S : z_St) : z_R126 d (n + 1) 0 z [some (.ref 70), some (.int l1)] [] S = if (S.1 70 24) = 0 then (z_cli (z_ew d 123 [.ref 70, .int l1] S) (fun x2 S1 => if x2 = 0 then (z_clv (z_ew d 121 [.ref 70, .int (nI 1)] S1) (fun S3 => z_R126 d n 20 z [some (.ref 70), some (.int l1)] [] S3) (z_hnd [])) else (z_R126 d n 20 z [some (.ref 70), some (.int l1)] [] S1)) (z_hnd [])) else (z_R126 d n 20 z [some (.ref 70), some (.int l1)] [] S) := by
  refine zs_run (L' := [some (.ref 70), some (.int l1)]) rfl rfl ?_
  exact zs_aload_n rfl (zs_get0 (x := (S.1 70 24)) rfl rfl (zs_if_ne rfl (zs_aload_n rfl (zs_iload_n rfl (zs_Vi rfl rfl (Or.inr ⟨Or.inl rfl, _, _, rfl, rfl⟩) (fun x2 S1 => zs_if_ne rfl (zs_aload_n rfl (zs_iconst (v := nI 1) rfl (zs_Vv rfl rfl (Or.inr ⟨Or.inl rfl, _, _, rfl, rfl⟩) (fun S3 => zs_nil rfl) (fun _ _ => rfl))))) (fun _ _ => rfl))))))
set_option maxRecDepth 100000 in
theorem zq_126_20 (d n z : Nat)  (d1 : Option Value) (S : z_St) : z_R126 d (n + 1) 20 z [some (.ref 70), d1] [] S = if (S.1 70 24) = 0 then (z_clv (z_ew d 120 [.ref 70] S) (fun S1 => z_R126 d n 31 z [some (.ref 70), none] [] S1) (z_hnd [])) else (z_R126 d n 31 z [some (.ref 70), none] [] S) := by
  refine zs_run (L' := [some (.ref 70), none]) rfl rfl ?_
  exact zs_aload_n rfl (zs_get0 (x := (S.1 70 24)) rfl rfl (zs_if_ne rfl (zs_aload_n rfl (zs_Vv rfl rfl (Or.inr ⟨Or.inl rfl, _, _, rfl, rfl⟩) (fun S1 => zs_nil rfl) (fun _ _ => rfl)))))
set_option maxRecDepth 100000 in
theorem zq_126_31 (d n z : Nat)  (d0 d1 : Option Value) (S : z_St) : z_R126 d (n + 1) 31 z [d0, d1] [] S = some (.inl none, S) := by
  refine zs_run (L' := [none, none]) rfl rfl ?_
  exact zs_ret rfl
/-- SlipRoomModel.readNumber(II)I -/
noncomputable def z_R127 (d : Nat) : Nat → z_K := z_run false (some .int) [] (z_ew d) z_b127
theorem ze_127 (d : Nat) (as : List Value) (S : z_St) (h : Nat.ble (z_sl as).length 4 = true) : z_ew (d + 1) 127 as S = z_R127 d z_fuel 0 0 (z_in 4 as) [] S := zs_ew h
set_option maxRecDepth 100000 in
theorem zq_127_0 (d n z : Nat) (l1 : Int32) (l2 : Int32) (d3 : Option Value) (S : z_St) : z_R127 d (n + 1) 0 z [some (.ref 70), some (.int l1), some (.int l2), d3] [] S = if (S.1 70 24) = 0 then (z_R127 d n 9 z [some (.ref 70), some (.int l1), some (.int l2), none] [] S) else (some (.inl (some (.int (nI 0))), S)) := by
  refine zs_run (L' := [some (.ref 70), some (.int l1), some (.int l2), none]) rfl rfl ?_
  exact zs_aload_n rfl (zs_get0 (x := (S.1 70 24)) rfl rfl (zs_if_eq rfl (zs_iconst (v := nI 0) rfl (zs_iret rfl))))
set_option maxRecDepth 100000 in
theorem zq_127_9 (d n z : Nat) (l1 : Int32) (l2 : Int32) (d3 : Option Value) (S : z_St) : z_R127 d (n + 1) 9 z [some (.ref 70), some (.int l1), some (.int l2), d3] [] S = if (S.1 70 20) = (nI 2) then (z_R127 d n 25 z [some (.ref 70), some (.int l1), some (.int l2), none] [] S) else (z_clv (z_ew d 121 [.ref 70, .int (nI 1)] S) (fun S1 => z_R127 d n 59 z [some (.ref 70), some (.int l1), some (.int l2), none] [] S1) (z_hnd [])) := by
  refine zs_run (L' := [some (.ref 70), some (.int l1), some (.int l2), none]) rfl rfl ?_
  exact zs_aload_n rfl (zs_get0 (x := (S.1 70 20)) rfl rfl (zs_iconst (v := nI 2) rfl (zs_ic_eq rfl (zs_aload_n rfl (zs_iconst (v := nI 1) rfl (zs_Vv rfl rfl (Or.inr ⟨Or.inl rfl, _, _, rfl, rfl⟩) (fun S1 => zs_goto rfl) (fun _ _ => rfl)))))))
set_option maxRecDepth 100000 in
theorem zq_127_25 (d n z : Nat) (l1 : Int32) (l2 : Int32) (d3 : Option Value) (S : z_St) : z_R127 d (n + 1) 25 z [some (.ref 70), some (.int l1), some (.int l2), d3] [] S = if (nI 4) < ((S.1 70 23) - (S.1 70 22)) then (z_R127 d n 54 z [some (.ref 70), some (.int l1), some (.int l2), none] [] S) else (if (S.1 70 21) < l1 then (z_R127 d n 54 z [some (.ref 70), some (.int l1), some (.int l2), none] [] S) else (if (S.1 70 21) ≤ l2 then (z_R127 d n 59 z [some (.ref 70), some (.int l1), some (.int l2), none] [] S) else (z_R127 d n 54 z [some (.ref 70), some (.int l1), some (.int l2), none] [] S))) := by
  refine zs_run (L' := [some (.ref 70), some (.int l1), some (.int l2), none]) rfl rfl ?_
  exact zs_aload_n rfl (zs_get0 (x := (S.1 70 23)) rfl rfl (zs_aload_n rfl (zs_get0 (x := (S.1 70 22)) rfl rfl (zs_isub (zs_iconst (v := nI 4) rfl (zs_ic_gt rfl (zs_aload_n rfl (zs_get0 (x := (S.1 70 21)) rfl rfl (zs_iload_n rfl (zs_ic_lt rfl (zs_aload_n rfl (zs_get0 (x := (S.1 70 21)) rfl rfl (zs_iload_n rfl (zs_ic_le rfl (zs_nil rfl)))))))))))))))
set_option maxRecDepth 100000 in
theorem zq_127_54 (d n z : Nat)  (d1 d2 d3 : Option Value) (S : z_St) : z_R127 d (n + 1) 54 z [some (.ref 70), d1, d2, d3] [] S = z_clv (z_ew d 121 [.ref 70, .int (nI 2)] S) (fun S1 => z_R127 d n 59 z [some (.ref 70), none, none, none] [] S1) (z_hnd []) := by
  refine zs_run (L' := [some (.ref 70), none, none, none]) rfl rfl ?_
  exact zs_aload_n rfl (zs_iconst (v := nI 2) rfl (zs_Vv rfl rfl (Or.inr ⟨Or.inl rfl, _, _, rfl, rfl⟩) (fun S1 => zs_nil rfl) (fun _ _ => rfl)))
set_option maxRecDepth 100000 in
theorem zq_127_59 (d n z : Nat)  (d1 d2 d3 : Option Value) (S : z_St) : z_R127 d (n + 1) 59 z [some (.ref 70), d1, d2, d3] [] S = if (S.1 70 24) = 0 then (z_clv (z_ew d 120 [.ref 70] S) (fun S1 => z_R127 d n 75 z [some (.ref 70), none, none, some (.int (S.1 70 21))] [] S1) (z_hnd [])) else (z_R127 d n 75 z [some (.ref 70), none, none, some (.int (S.1 70 21))] [] S) := by
  refine zs_run (L' := [some (.ref 70), none, none, none]) rfl rfl ?_
  exact zs_aload_n rfl (zs_get0 (x := (S.1 70 21)) rfl rfl (zs_istore_n (L' := [some (.ref 70), none, none, some (.int (S.1 70 21))]) rfl rfl (zs_aload_n rfl (zs_get0 (x := (S.1 70 24)) rfl rfl (zs_if_ne rfl (zs_aload_n rfl (zs_Vv rfl rfl (Or.inr ⟨Or.inl rfl, _, _, rfl, rfl⟩) (fun S1 => zs_nil rfl) (fun _ _ => rfl))))))))
set_option maxRecDepth 100000 in
theorem zq_127_75 (d n z : Nat) (l3 : Int32) (d0 d1 d2 : Option Value) (S : z_St) : z_R127 d (n + 1) 75 z [d0, d1, d2, some (.int l3)] [] S = some (.inl (some (.int l3)), S) := by
  refine zs_run (L' := [none, none, none, some (.int l3)]) rfl rfl ?_
  exact zs_iload_n rfl (zs_iret rfl)
/-- SlipRoomModel.lay(I)V -/
noncomputable def z_R128 (d : Nat) : Nat → z_K := z_run false none [] (z_ew d) z_b128
theorem ze_128 (d : Nat) (as : List Value) (S : z_St) (h : Nat.ble (z_sl as).length 2 = true) : z_ew (d + 1) 128 as S = z_R128 d z_fuel 0 0 (z_in 2 as) [] S := zs_ew h
set_option maxRecDepth 100000 in
theorem zq_128_0 (d n z : Nat) (l1 : Int32) (S : z_St) : z_R128 d (n + 1) 0 z [some (.ref 70), some (.int l1)] [] S = if (S.1 70 24) = 0 then (z_R128 d n 8 z [some (.ref 70), some (.int l1)] [] S) else (some (.inl none, S)) := by
  refine zs_run (L' := [some (.ref 70), some (.int l1)]) rfl rfl ?_
  exact zs_aload_n rfl (zs_get0 (x := (S.1 70 24)) rfl rfl (zs_if_eq rfl (zs_ret rfl)))
set_option maxRecDepth 100000 in
theorem zq_128_8 (d n z : Nat) (l1 : Int32) (S : z_St) : z_R128 d (n + 1) 8 z [some (.ref 70), some (.int l1)] [] S = cond (z_ix ((nI 700) + (S.1 70 27)) 1400) (some (.inl none, ((z_w1 (z_w1 S.1 79 ((((nI 700) + (S.1 70 27))).toNatClampNeg) l1) 70 27 ((S.1 70 27) + (nI 1))), S.2))) none := by
  refine zs_run (L' := [some (.ref 70), some (.int l1)]) rfl rfl ?_
  exact zs_aload_n rfl (zs_get2 (b := 79) rfl rfl (zs_sipush (v := nI 700) rfl (zs_aload_n rfl (zs_get0 (x := (S.1 70 27)) rfl rfl (zs_iadd (zs_iload_n rfl (zs_ias (S' := ((z_w1 S.1 79 ((((nI 700) + (S.1 70 27))).toNatClampNeg) l1), S.2)) rfl rfl rfl (zs_aload_n rfl (zs_dupr (zs_get0 (x := (S.1 70 27)) rfl rfl (zs_iconst (v := nI 1) rfl (zs_iadd (zs_put (S' := ((z_w1 (z_w1 S.1 79 ((((nI 700) + (S.1 70 27))).toNatClampNeg) l1) 70 27 ((S.1 70 27) + (nI 1))), S.2)) rfl rfl (zs_ret rfl))))))))))))))
/-- SlipRoomModel.readPart(I)V -/
noncomputable def z_R129 (d : Nat) : Nat → z_K := z_run false none [] (z_ew d) z_b129
theorem ze_129 (d : Nat) (as : List Value) (S : z_St) (h : Nat.ble (z_sl as).length 3 = true) : z_ew (d + 1) 129 as S = z_R129 d z_fuel 0 0 (z_in 3 as) [] S := zs_ew h
set_option maxRecDepth 100000 in
theorem zq_129_0 (d n z : Nat) (l1 : Int32) (d2 : Option Value) (S : z_St) : z_R129 d (n + 1) 0 z [some (.ref 70), some (.int l1), d2] [] S = if (S.1 70 24) = 0 then (z_R129 d n 8 z [some (.ref 70), some (.int l1), none] [] S) else (some (.inl none, S)) := by
  refine zs_run (L' := [some (.ref 70), some (.int l1), none]) rfl rfl ?_
  exact zs_aload_n rfl (zs_get0 (x := (S.1 70 24)) rfl rfl (zs_if_eq rfl (zs_ret rfl)))
set_option maxRecDepth 100000 in
theorem zq_129_8 (d n z : Nat) (l1 : Int32) (d2 : Option Value) (S : z_St) : z_R129 d (n + 1) 8 z [some (.ref 70), some (.int l1), d2] [] S = if (S.1 70 20) = (nI 2) then (z_cli (z_ew d 127 [.ref 70, .int (nI 0), .int (nI 9999)] S) (fun x2 S1 => z_clv (z_ew d 128 [.ref 70, .int x2] S1) (fun S3 => some (.inl none, S3)) (z_hnd [])) (z_hnd [])) else (z_R129 d n 29 z [some (.ref 70), some (.int l1), none] [] S) := by
  refine zs_run (L' := [some (.ref 70), some (.int l1), none]) rfl rfl ?_
  exact zs_aload_n rfl (zs_get0 (x := (S.1 70 20)) rfl rfl (zs_iconst (v := nI 2) rfl (zs_ic_ne rfl (zs_aload_n rfl (zs_aload_n rfl (zs_iconst (v := nI 0) rfl (zs_sipush (v := nI 9999) rfl (zs_Vi rfl rfl (Or.inr ⟨Or.inl rfl, _, _, rfl, rfl⟩) (fun x2 S1 => zs_Vv rfl rfl (Or.inr ⟨Or.inl rfl, _, _, rfl, rfl⟩) (fun S3 => zs_ret rfl) (fun _ _ => rfl)) (fun _ _ => rfl)))))))))
set_option maxRecDepth 100000 in
theorem zq_129_29 (d n z : Nat) (l1 : Int32) (d2 : Option Value) (S : z_St) : z_R129 d (n + 1) 29 z [some (.ref 70), some (.int l1), d2] [] S = if (S.1 70 20) = (nI 1) then (z_cli (z_ew d 124 [.ref 70, .ref 71] S) (fun x2 S1 => if x2 = (-nI 1) then (z_clv (z_ew d 121 [.ref 70, .int (nI 3)] S1) (fun S3 => z_R129 d n 56 z [some (.ref 70), some (.int l1), some (.int x2)] [] S3) (z_hnd [])) else (z_R129 d n 56 z [some (.ref 70), some (.int l1), some (.int x2)] [] S1)) (z_hnd [])) else (z_R129 d n 75 z [some (.ref 70), some (.int l1), none] [] S) := by
  refine zs_run (L' := [some (.ref 70), some (.int l1), none]) rfl rfl ?_
  exact zs_aload_n rfl (zs_get0 (x := (S.1 70 20)) rfl rfl (zs_iconst (v := nI 1) rfl (zs_ic_ne rfl (zs_aload_n rfl (zs_aload_n rfl (zs_get2 (b := 71) rfl rfl (zs_Vi rfl rfl (Or.inr ⟨Or.inl rfl, _, _, rfl, rfl⟩) (fun x2 S1 => zs_istore_n (L' := [some (.ref 70), some (.int l1), some (.int x2)]) rfl rfl (zs_iload_n rfl (zs_iconst (v := (-nI 1)) rfl (zs_ic_ne rfl (zs_aload_n rfl (zs_iconst (v := nI 3) rfl (zs_Vv rfl rfl (Or.inr ⟨Or.inl rfl, _, _, rfl, rfl⟩) (fun S3 => zs_nil rfl) (fun _ _ => rfl)))))))) (fun _ _ => rfl))))))))
set_option maxRecDepth 100000 in
theorem zq_129_56 (d n z : Nat) (l2 : Int32) (d1 : Option Value) (S : z_St) : z_R129 d (n + 1) 56 z [some (.ref 70), d1, some (.int l2)] [] S = z_clv (z_ew d 128 [.ref 70, .int ((-nI 1) - l2)] S) (fun S1 => if (S1.1 70 24) = 0 then (z_clv (z_ew d 120 [.ref 70] S1) (fun S2 => z_R129 d n 74 z [some (.ref 70), none, some (.int l2)] [] S2) (z_hnd [])) else (z_R129 d n 74 z [some (.ref 70), none, some (.int l2)] [] S1)) (z_hnd []) := by
  refine zs_run (L' := [some (.ref 70), none, some (.int l2)]) rfl rfl ?_
  exact zs_aload_n rfl (zs_iconst (v := (-nI 1)) rfl (zs_iload_n rfl (zs_isub (zs_Vv rfl rfl (Or.inr ⟨Or.inl rfl, _, _, rfl, rfl⟩) (fun S1 => zs_aload_n rfl (zs_get0 (x := (S1.1 70 24)) rfl rfl (zs_if_ne rfl (zs_aload_n rfl (zs_Vv rfl rfl (Or.inr ⟨Or.inl rfl, _, _, rfl, rfl⟩) (fun S2 => zs_nil rfl) (fun _ _ => rfl)))))) (fun _ _ => rfl)))))
set_option maxRecDepth 100000 in
theorem zq_129_74 (d n z : Nat)  (d0 d1 d2 : Option Value) (S : z_St) : z_R129 d (n + 1) 74 z [d0, d1, d2] [] S = some (.inl none, S) := by
  refine zs_run (L' := [none, none, none]) rfl rfl ?_
  exact zs_ret rfl
set_option maxRecDepth 100000 in
theorem zq_129_75 (d n z : Nat) (l1 : Int32) (d2 : Option Value) (S : z_St) : z_R129 d (n + 1) 75 z [some (.ref 70), some (.int l1), d2] [] S = z_clv (z_ew d 126 [.ref 70, .int (nI 40)] S) (fun S1 => z_clv (z_ew d 134 [.ref 70, .int (l1 + (nI 1))] S1) (fun S2 => z_clv (z_ew d 126 [.ref 70, .int (nI 41)] S2) (fun S3 => some (.inl none, S3)) (z_hnd [])) (z_hnd [])) (z_hnd []) := by
  refine zs_run (L' := [some (.ref 70), some (.int l1), none]) rfl rfl ?_
  exact zs_aload_n rfl (zs_bipush (v := nI 40) rfl (zs_Vv rfl rfl (Or.inr ⟨Or.inl rfl, _, _, rfl, rfl⟩) (fun S1 => zs_aload_n rfl (zs_iload_n rfl (zs_iconst (v := nI 1) rfl (zs_iadd (zs_Vv rfl rfl (Or.inr ⟨Or.inl rfl, _, _, rfl, rfl⟩) (fun S2 => zs_aload_n rfl (zs_bipush (v := nI 41) rfl (zs_Vv rfl rfl (Or.inr ⟨Or.inl rfl, _, _, rfl, rfl⟩) (fun S3 => zs_ret rfl) (fun _ _ => rfl)))) (fun _ _ => rfl)))))) (fun _ _ => rfl)))
/-- SlipRoomModel.readProduct(I)V -/
noncomputable def z_R130 (d : Nat) : Nat → z_K := z_run false none [] (z_ew d) z_b130
theorem ze_130 (d : Nat) (as : List Value) (S : z_St) (h : Nat.ble (z_sl as).length 3 = true) : z_ew (d + 1) 130 as S = z_R130 d z_fuel 0 0 (z_in 3 as) [] S := zs_ew h
set_option maxRecDepth 100000 in
theorem zq_130_0 (d n z : Nat) (l1 : Int32) (d2 : Option Value) (S : z_St) : z_R130 d (n + 1) 0 z [some (.ref 70), some (.int l1), d2] [] S = z_clv (z_ew d 129 [.ref 70, .int l1] S) (fun S1 => z_R130 d n 5 z [some (.ref 70), some (.int l1), none] [] S1) (z_hnd []) := by
  refine zs_run (L' := [some (.ref 70), some (.int l1), none]) rfl rfl ?_
  exact zs_aload_n rfl (zs_iload_n rfl (zs_Vv rfl rfl (Or.inr ⟨Or.inl rfl, _, _, rfl, rfl⟩) (fun S1 => zs_nil rfl) (fun _ _ => rfl)))
set_option maxRecDepth 100000 in
theorem zq_130_5 (d n z : Nat) (l1 : Int32) (d2 : Option Value) (S : z_St) : z_R130 d (n + 1) 5 z [some (.ref 70), some (.int l1), d2] [] S = z_cli (z_ew d 123 [.ref 70, .int (nI 42)] S) (fun x2 S1 => if x2 = 0 then (z_cli (z_ew d 123 [.ref 70, .int (nI 47)] S1) (fun x4 S3 => if x4 = 0 then (z_R130 d n 57 z [some (.ref 70), some (.int l1), none] [] S3) else (z_R130 d n 23 z [some (.ref 70), some (.int l1), none] [] S3)) (z_hnd [])) else (z_R130 d n 23 z [some (.ref 70), some (.int l1), none] [] S1)) (z_hnd []) := by
  refine zs_run (L' := [some (.ref 70), some (.int l1), none]) rfl rfl ?_
  exact zs_aload_n rfl (zs_bipush (v := nI 42) rfl (zs_Vi rfl rfl (Or.inr ⟨Or.inl rfl, _, _, rfl, rfl⟩) (fun x2 S1 => zs_if_ne rfl (zs_aload_n rfl (zs_bipush (v := nI 47) rfl (zs_Vi rfl rfl (Or.inr ⟨Or.inl rfl, _, _, rfl, rfl⟩) (fun x4 S3 => zs_if_eq rfl (zs_nil rfl)) (fun _ _ => rfl))))) (fun _ _ => rfl)))
set_option maxRecDepth 100000 in
theorem zq_130_23 (d n z : Nat) (l1 : Int32) (d2 : Option Value) (S : z_St) : z_R130 d (n + 1) 23 z [some (.ref 70), some (.int l1), d2] [] S = z_cli (z_ew d 123 [.ref 70, .int (nI 42)] S) (fun x2 S1 => if x2 = 0 then (z_R130 d n 37 z [some (.ref 70), some (.int l1), none] [] S1) else (z_R130 d n 39 z [some (.ref 70), some (.int l1), none] [.int (-nI 22)] S1)) (z_hnd []) := by
  refine zs_run (L' := [some (.ref 70), some (.int l1), none]) rfl rfl ?_
  exact zs_aload_n rfl (zs_bipush (v := nI 42) rfl (zs_Vi rfl rfl (Or.inr ⟨Or.inl rfl, _, _, rfl, rfl⟩) (fun x2 S1 => zs_if_eq rfl (zs_bipush (v := (-nI 22)) rfl (zs_goto rfl))) (fun _ _ => rfl)))
set_option maxRecDepth 100000 in
theorem zq_130_37 (d n z : Nat) (l1 : Int32) (d2 : Option Value) (S : z_St) : z_R130 d (n + 1) 37 z [some (.ref 70), some (.int l1), d2] [] S = z_R130 d n 39 z [some (.ref 70), some (.int l1), none] [.int (-nI 23)] S := by
  refine zs_run (L' := [some (.ref 70), some (.int l1), none]) rfl rfl ?_
  exact zs_bipush (v := (-nI 23)) rfl (zs_nil rfl)
set_option maxRecDepth 100000 in
theorem zq_130_39 (d n z : Nat) (l1 : Int32) (t0 : Int32) (d2 : Option Value) (S : z_St) : z_R130 d (n + 1) 39 z [some (.ref 70), some (.int l1), d2] [.int t0] S = z_clv (z_ew d 120 [.ref 70] S) (fun S1 => z_clv (z_ew d 129 [.ref 70, .int l1] S1) (fun S2 => z_clv (z_ew d 128 [.ref 70, .int t0] S2) (fun S3 => z_R130 d n 5 z [some (.ref 70), some (.int l1), some (.int t0)] [] S3) (z_hnd [])) (z_hnd [])) (z_hnd []) := by
  refine zs_run (L' := [some (.ref 70), some (.int l1), none]) rfl rfl ?_
  exact zs_istore_n (L' := [some (.ref 70), some (.int l1), some (.int t0)]) rfl rfl (zs_aload_n rfl (zs_Vv rfl rfl (Or.inr ⟨Or.inl rfl, _, _, rfl, rfl⟩) (fun S1 => zs_aload_n rfl (zs_iload_n rfl (zs_Vv rfl rfl (Or.inr ⟨Or.inl rfl, _, _, rfl, rfl⟩) (fun S2 => zs_aload_n rfl (zs_iload_n rfl (zs_Vv rfl rfl (Or.inr ⟨Or.inl rfl, _, _, rfl, rfl⟩) (fun S3 => zs_goto rfl) (fun _ _ => rfl)))) (fun _ _ => rfl)))) (fun _ _ => rfl)))
set_option maxRecDepth 100000 in
theorem zq_130_57 (d n z : Nat)  (d0 d1 d2 : Option Value) (S : z_St) : z_R130 d (n + 1) 57 z [d0, d1, d2] [] S = some (.inl none, S) := by
  refine zs_run (L' := [none, none, none]) rfl rfl ?_
  exact zs_ret rfl
/-- SlipRoomModel.readSum(I)V -/
noncomputable def z_R131 (d : Nat) : Nat → z_K := z_run false none [] (z_ew d) z_b131
theorem ze_131 (d : Nat) (as : List Value) (S : z_St) (h : Nat.ble (z_sl as).length 3 = true) : z_ew (d + 1) 131 as S = z_R131 d z_fuel 0 0 (z_in 3 as) [] S := zs_ew h
set_option maxRecDepth 100000 in
theorem zq_131_0 (d n z : Nat) (l1 : Int32) (d2 : Option Value) (S : z_St) : z_R131 d (n + 1) 0 z [some (.ref 70), some (.int l1), d2] [] S = z_clv (z_ew d 130 [.ref 70, .int l1] S) (fun S1 => z_R131 d n 5 z [some (.ref 70), some (.int l1), none] [] S1) (z_hnd []) := by
  refine zs_run (L' := [some (.ref 70), some (.int l1), none]) rfl rfl ?_
  exact zs_aload_n rfl (zs_iload_n rfl (zs_Vv rfl rfl (Or.inr ⟨Or.inl rfl, _, _, rfl, rfl⟩) (fun S1 => zs_nil rfl) (fun _ _ => rfl)))
set_option maxRecDepth 100000 in
theorem zq_131_5 (d n z : Nat) (l1 : Int32) (d2 : Option Value) (S : z_St) : z_R131 d (n + 1) 5 z [some (.ref 70), some (.int l1), d2] [] S = z_cli (z_ew d 123 [.ref 70, .int (nI 43)] S) (fun x2 S1 => if x2 = 0 then (z_cli (z_ew d 123 [.ref 70, .int (nI 45)] S1) (fun x4 S3 => if x4 = 0 then (z_R131 d n 57 z [some (.ref 70), some (.int l1), none] [] S3) else (z_R131 d n 23 z [some (.ref 70), some (.int l1), none] [] S3)) (z_hnd [])) else (z_R131 d n 23 z [some (.ref 70), some (.int l1), none] [] S1)) (z_hnd []) := by
  refine zs_run (L' := [some (.ref 70), some (.int l1), none]) rfl rfl ?_
  exact zs_aload_n rfl (zs_bipush (v := nI 43) rfl (zs_Vi rfl rfl (Or.inr ⟨Or.inl rfl, _, _, rfl, rfl⟩) (fun x2 S1 => zs_if_ne rfl (zs_aload_n rfl (zs_bipush (v := nI 45) rfl (zs_Vi rfl rfl (Or.inr ⟨Or.inl rfl, _, _, rfl, rfl⟩) (fun x4 S3 => zs_if_eq rfl (zs_nil rfl)) (fun _ _ => rfl))))) (fun _ _ => rfl)))
set_option maxRecDepth 100000 in
theorem zq_131_23 (d n z : Nat) (l1 : Int32) (d2 : Option Value) (S : z_St) : z_R131 d (n + 1) 23 z [some (.ref 70), some (.int l1), d2] [] S = z_cli (z_ew d 123 [.ref 70, .int (nI 43)] S) (fun x2 S1 => if x2 = 0 then (z_R131 d n 37 z [some (.ref 70), some (.int l1), none] [] S1) else (z_R131 d n 39 z [some (.ref 70), some (.int l1), none] [.int (-nI 20)] S1)) (z_hnd []) := by
  refine zs_run (L' := [some (.ref 70), some (.int l1), none]) rfl rfl ?_
  exact zs_aload_n rfl (zs_bipush (v := nI 43) rfl (zs_Vi rfl rfl (Or.inr ⟨Or.inl rfl, _, _, rfl, rfl⟩) (fun x2 S1 => zs_if_eq rfl (zs_bipush (v := (-nI 20)) rfl (zs_goto rfl))) (fun _ _ => rfl)))
set_option maxRecDepth 100000 in
theorem zq_131_37 (d n z : Nat) (l1 : Int32) (d2 : Option Value) (S : z_St) : z_R131 d (n + 1) 37 z [some (.ref 70), some (.int l1), d2] [] S = z_R131 d n 39 z [some (.ref 70), some (.int l1), none] [.int (-nI 21)] S := by
  refine zs_run (L' := [some (.ref 70), some (.int l1), none]) rfl rfl ?_
  exact zs_bipush (v := (-nI 21)) rfl (zs_nil rfl)
set_option maxRecDepth 100000 in
theorem zq_131_39 (d n z : Nat) (l1 : Int32) (t0 : Int32) (d2 : Option Value) (S : z_St) : z_R131 d (n + 1) 39 z [some (.ref 70), some (.int l1), d2] [.int t0] S = z_clv (z_ew d 120 [.ref 70] S) (fun S1 => z_clv (z_ew d 130 [.ref 70, .int l1] S1) (fun S2 => z_clv (z_ew d 128 [.ref 70, .int t0] S2) (fun S3 => z_R131 d n 5 z [some (.ref 70), some (.int l1), some (.int t0)] [] S3) (z_hnd [])) (z_hnd [])) (z_hnd []) := by
  refine zs_run (L' := [some (.ref 70), some (.int l1), none]) rfl rfl ?_
  exact zs_istore_n (L' := [some (.ref 70), some (.int l1), some (.int t0)]) rfl rfl (zs_aload_n rfl (zs_Vv rfl rfl (Or.inr ⟨Or.inl rfl, _, _, rfl, rfl⟩) (fun S1 => zs_aload_n rfl (zs_iload_n rfl (zs_Vv rfl rfl (Or.inr ⟨Or.inl rfl, _, _, rfl, rfl⟩) (fun S2 => zs_aload_n rfl (zs_iload_n rfl (zs_Vv rfl rfl (Or.inr ⟨Or.inl rfl, _, _, rfl, rfl⟩) (fun S3 => zs_goto rfl) (fun _ _ => rfl)))) (fun _ _ => rfl)))) (fun _ _ => rfl)))
set_option maxRecDepth 100000 in
theorem zq_131_57 (d n z : Nat)  (d0 d1 d2 : Option Value) (S : z_St) : z_R131 d (n + 1) 57 z [d0, d1, d2] [] S = some (.inl none, S) := by
  refine zs_run (L' := [none, none, none]) rfl rfl ?_
  exact zs_ret rfl
/-- SlipRoomModel.readNot(I)V -/
noncomputable def z_R132 (d : Nat) : Nat → z_K := z_run false none [] (z_ew d) z_b132
theorem ze_132 (d : Nat) (as : List Value) (S : z_St) (h : Nat.ble (z_sl as).length 4 = true) : z_ew (d + 1) 132 as S = z_R132 d z_fuel 0 0 (z_in 4 as) [] S := zs_ew h
set_option maxRecDepth 100000 in
theorem zq_132_0 (d n z : Nat) (l1 : Int32) (d2 d3 : Option Value) (S : z_St) : z_R132 d (n + 1) 0 z [some (.ref 70), some (.int l1), d2, d3] [] S = z_R132 d n 2 z [some (.ref 70), some (.int l1), some (.int (nI 0)), none] [] S := by
  refine zs_run (L' := [some (.ref 70), some (.int l1), none, none]) rfl rfl ?_
  exact zs_iconst (v := nI 0) rfl (zs_istore_n (L' := [some (.ref 70), some (.int l1), some (.int (nI 0)), none]) rfl rfl (zs_nil rfl))
set_option maxRecDepth 100000 in
theorem zq_132_2 (d n z : Nat) (l1 : Int32) (l2 : Int32) (d3 : Option Value) (S : z_St) : z_R132 d (n + 1) 2 z [some (.ref 70), some (.int l1), some (.int l2), d3] [] S = z_cli (z_ew d 122 [.ref 70, .ref 1210] S) (fun x2 S1 => if x2 = 0 then (z_R132 d n 40 z [some (.ref 70), some (.int l1), some (.int l2), none] [] S1) else (if l2 = (nI 6) then (z_clv (z_ew d 121 [.ref 70, .int (nI 2)] S1) (fun S3 => z_R132 d n 23 z [some (.ref 70), some (.int l1), some (.int l2), none] [] S3) (z_hnd [])) else (z_R132 d n 23 z [some (.ref 70), some (.int l1), some (.int l2), none] [] S1))) (z_hnd []) := by
  refine zs_run (L' := [some (.ref 70), some (.int l1), some (.int l2), none]) rfl rfl ?_
  exact zs_aload_n rfl (zs_ldc_w1 (zs_Vi rfl rfl (Or.inr ⟨Or.inl rfl, _, _, rfl, rfl⟩) (fun x2 S1 => zs_if_eq rfl (zs_iload_n rfl (zs_bipush (v := nI 6) rfl (zs_ic_ne rfl (zs_aload_n rfl (zs_iconst (v := nI 2) rfl (zs_Vv rfl rfl (Or.inr ⟨Or.inl rfl, _, _, rfl, rfl⟩) (fun S3 => zs_nil rfl) (fun _ _ => rfl)))))))) (fun _ _ => rfl)))
set_option maxRecDepth 100000 in
theorem zq_132_23 (d n z : Nat) (l1 : Int32) (l2 : Int32) (d3 : Option Value) (S : z_St) : z_R132 d (n + 1) 23 z [some (.ref 70), some (.int l1), some (.int l2), d3] [] S = if (S.1 70 24) = 0 then (z_clv (z_ew d 120 [.ref 70] S) (fun S1 => z_R132 d n 2 z [some (.ref 70), some (.int l1), some (.int (l2 + (nI 1))), none] [] S1) (z_hnd [])) else (z_R132 d n 2 z [some (.ref 70), some (.int l1), some (.int (l2 + (nI 1))), none] [] S) := by
  refine zs_run (L' := [some (.ref 70), some (.int l1), some (.int l2), none]) rfl rfl ?_
  exact zs_iinc (v := nI 1) (L' := [some (.ref 70), some (.int l1), some (.int (l2 + (nI 1))), none]) rfl rfl rfl rfl (zs_aload_n rfl (zs_get0 (x := (S.1 70 24)) rfl rfl (zs_if_ne rfl (zs_aload_n rfl (zs_Vv rfl rfl (Or.inr ⟨Or.inl rfl, _, _, rfl, rfl⟩) (fun S1 => zs_goto rfl) (fun _ _ => rfl))))))
set_option maxRecDepth 100000 in
theorem zq_132_40 (d n z : Nat) (l1 : Int32) (l2 : Int32) (d3 : Option Value) (S : z_St) : z_R132 d (n + 1) 40 z [some (.ref 70), some (.int l1), some (.int l2), d3] [] S = z_clv (z_ew d 131 [.ref 70, .int l1] S) (fun S1 => z_cli (z_ew d 123 [.ref 70, .int (nI 60)] S1) (fun x3 S2 => if x3 = 0 then (z_cli (z_ew d 123 [.ref 70, .int (nI 61)] S2) (fun x5 S4 => if x5 = 0 then (z_R132 d n 94 z [some (.ref 70), some (.int l1), some (.int l2), none] [] S4) else (z_R132 d n 63 z [some (.ref 70), some (.int l1), some (.int l2), none] [] S4)) (z_hnd [])) else (z_R132 d n 63 z [some (.ref 70), some (.int l1), some (.int l2), none] [] S2)) (z_hnd [])) (z_hnd []) := by
  refine zs_run (L' := [some (.ref 70), some (.int l1), some (.int l2), none]) rfl rfl ?_
  exact zs_aload_n rfl (zs_iload_n rfl (zs_Vv rfl rfl (Or.inr ⟨Or.inl rfl, _, _, rfl, rfl⟩) (fun S1 => zs_aload_n rfl (zs_bipush (v := nI 60) rfl (zs_Vi rfl rfl (Or.inr ⟨Or.inl rfl, _, _, rfl, rfl⟩) (fun x3 S2 => zs_if_ne rfl (zs_aload_n rfl (zs_bipush (v := nI 61) rfl (zs_Vi rfl rfl (Or.inr ⟨Or.inl rfl, _, _, rfl, rfl⟩) (fun x5 S4 => zs_if_eq rfl (zs_nil rfl)) (fun _ _ => rfl))))) (fun _ _ => rfl)))) (fun _ _ => rfl)))
set_option maxRecDepth 100000 in
theorem zq_132_63 (d n z : Nat) (l1 : Int32) (l2 : Int32) (d3 : Option Value) (S : z_St) : z_R132 d (n + 1) 63 z [some (.ref 70), some (.int l1), some (.int l2), d3] [] S = z_cli (z_ew d 123 [.ref 70, .int (nI 60)] S) (fun x2 S1 => if x2 = 0 then (z_R132 d n 77 z [some (.ref 70), some (.int l1), some (.int l2), none] [] S1) else (z_R132 d n 79 z [some (.ref 70), some (.int l1), some (.int l2), none] [.int (-nI 24)] S1)) (z_hnd []) := by
  refine zs_run (L' := [some (.ref 70), some (.int l1), some (.int l2), none]) rfl rfl ?_
  exact zs_aload_n rfl (zs_bipush (v := nI 60) rfl (zs_Vi rfl rfl (Or.inr ⟨Or.inl rfl, _, _, rfl, rfl⟩) (fun x2 S1 => zs_if_eq rfl (zs_bipush (v := (-nI 24)) rfl (zs_goto rfl))) (fun _ _ => rfl)))
set_option maxRecDepth 100000 in
theorem zq_132_77 (d n z : Nat) (l1 : Int32) (l2 : Int32) (d3 : Option Value) (S : z_St) : z_R132 d (n + 1) 77 z [some (.ref 70), some (.int l1), some (.int l2), d3] [] S = z_R132 d n 79 z [some (.ref 70), some (.int l1), some (.int l2), none] [.int (-nI 25)] S := by
  refine zs_run (L' := [some (.ref 70), some (.int l1), some (.int l2), none]) rfl rfl ?_
  exact zs_bipush (v := (-nI 25)) rfl (zs_nil rfl)
set_option maxRecDepth 100000 in
theorem zq_132_79 (d n z : Nat) (l1 : Int32) (l2 : Int32) (t0 : Int32) (d3 : Option Value) (S : z_St) : z_R132 d (n + 1) 79 z [some (.ref 70), some (.int l1), some (.int l2), d3] [.int t0] S = z_clv (z_ew d 120 [.ref 70] S) (fun S1 => z_clv (z_ew d 131 [.ref 70, .int l1] S1) (fun S2 => z_clv (z_ew d 128 [.ref 70, .int t0] S2) (fun S3 => z_R132 d n 94 z [some (.ref 70), some (.int l1), some (.int l2), some (.int t0)] [] S3) (z_hnd [])) (z_hnd [])) (z_hnd []) := by
  refine zs_run (L' := [some (.ref 70), some (.int l1), some (.int l2), none]) rfl rfl ?_
  exact zs_istore_n (L' := [some (.ref 70), some (.int l1), some (.int l2), some (.int t0)]) rfl rfl (zs_aload_n rfl (zs_Vv rfl rfl (Or.inr ⟨Or.inl rfl, _, _, rfl, rfl⟩) (fun S1 => zs_aload_n rfl (zs_iload_n rfl (zs_Vv rfl rfl (Or.inr ⟨Or.inl rfl, _, _, rfl, rfl⟩) (fun S2 => zs_aload_n rfl (zs_iload_n rfl (zs_Vv rfl rfl (Or.inr ⟨Or.inl rfl, _, _, rfl, rfl⟩) (fun S3 => zs_nil rfl) (fun _ _ => rfl)))) (fun _ _ => rfl)))) (fun _ _ => rfl)))
set_option maxRecDepth 100000 in
theorem zq_132_94 (d n z : Nat) (l2 : Int32) (d1 d3 : Option Value) (S : z_St) : z_R132 d (n + 1) 94 z [some (.ref 70), d1, some (.int l2), d3] [] S = z_R132 d n 96 z [some (.ref 70), none, some (.int l2), some (.int (nI 0))] [] S := by
  refine zs_run (L' := [some (.ref 70), none, some (.int l2), none]) rfl rfl ?_
  exact zs_iconst (v := nI 0) rfl (zs_istore_n (L' := [some (.ref 70), none, some (.int l2), some (.int (nI 0))]) rfl rfl (zs_nil rfl))
set_option maxRecDepth 100000 in
theorem zq_132_96 (d n z : Nat) (l2 : Int32) (l3 : Int32) (d1 : Option Value) (S : z_St) : z_R132 d (n + 1) 96 z [some (.ref 70), d1, some (.int l2), some (.int l3)] [] S = if l2 ≤ l3 then (z_R132 d n 113 z [some (.ref 70), none, some (.int l2), some (.int l3)] [] S) else (z_clv (z_ew d 128 [.ref 70, .int (-nI 28)] S) (fun S1 => z_R132 d n 96 z [some (.ref 70), none, some (.int l2), some (.int (l3 + (nI 1)))] [] S1) (z_hnd [])) := by
  refine zs_run (L' := [some (.ref 70), none, some (.int l2), some (.int l3)]) rfl rfl ?_
  exact zs_iload_n rfl (zs_iload_n rfl (zs_ic_ge rfl (zs_aload_n rfl (zs_bipush (v := (-nI 28)) rfl (zs_Vv rfl rfl (Or.inr ⟨Or.inl rfl, _, _, rfl, rfl⟩) (fun S1 => zs_iinc (v := nI 1) (L' := [some (.ref 70), none, some (.int l2), some (.int (l3 + (nI 1)))]) rfl rfl rfl rfl (zs_goto rfl)) (fun _ _ => rfl))))))
set_option maxRecDepth 100000 in
theorem zq_132_113 (d n z : Nat)  (d0 d1 d2 d3 : Option Value) (S : z_St) : z_R132 d (n + 1) 113 z [d0, d1, d2, d3] [] S = some (.inl none, S) := by
  refine zs_run (L' := [none, none, none, none]) rfl rfl ?_
  exact zs_ret rfl
/-- SlipRoomModel.readAnd(I)V -/
noncomputable def z_R133 (d : Nat) : Nat → z_K := z_run false none [] (z_ew d) z_b133
theorem ze_133 (d : Nat) (as : List Value) (S : z_St) (h : Nat.ble (z_sl as).length 2 = true) : z_ew (d + 1) 133 as S = z_R133 d z_fuel 0 0 (z_in 2 as) [] S := zs_ew h
set_option maxRecDepth 100000 in
theorem zq_133_0 (d n z : Nat) (l1 : Int32) (S : z_St) : z_R133 d (n + 1) 0 z [some (.ref 70), some (.int l1)] [] S = z_clv (z_ew d 132 [.ref 70, .int l1] S) (fun S1 => z_R133 d n 5 z [some (.ref 70), some (.int l1)] [] S1) (z_hnd []) := by
  refine zs_run (L' := [some (.ref 70), some (.int l1)]) rfl rfl ?_
  exact zs_aload_n rfl (zs_iload_n rfl (zs_Vv rfl rfl (Or.inr ⟨Or.inl rfl, _, _, rfl, rfl⟩) (fun S1 => zs_nil rfl) (fun _ _ => rfl)))
set_option maxRecDepth 100000 in
theorem zq_133_5 (d n z : Nat) (l1 : Int32) (S : z_St) : z_R133 d (n + 1) 5 z [some (.ref 70), some (.int l1)] [] S = z_cli (z_ew d 122 [.ref 70, .ref 1209] S) (fun x2 S1 => if x2 = 0 then (z_R133 d n 33 z [some (.ref 70), some (.int l1)] [] S1) else (z_clv (z_ew d 120 [.ref 70] S1) (fun S3 => z_clv (z_ew d 132 [.ref 70, .int l1] S3) (fun S4 => z_clv (z_ew d 128 [.ref 70, .int (-nI 26)] S4) (fun S5 => z_R133 d n 5 z [some (.ref 70), some (.int l1)] [] S5) (z_hnd [])) (z_hnd [])) (z_hnd []))) (z_hnd []) := by
  refine zs_run (L' := [some (.ref 70), some (.int l1)]) rfl rfl ?_
  exact zs_aload_n rfl (zs_ldc_w1 (zs_Vi rfl rfl (Or.inr ⟨Or.inl rfl, _, _, rfl, rfl⟩) (fun x2 S1 => zs_if_eq rfl (zs_aload_n rfl (zs_Vv rfl rfl (Or.inr ⟨Or.inl rfl, _, _, rfl, rfl⟩) (fun S3 => zs_aload_n rfl (zs_iload_n rfl (zs_Vv rfl rfl (Or.inr ⟨Or.inl rfl, _, _, rfl, rfl⟩) (fun S4 => zs_aload_n rfl (zs_bipush (v := (-nI 26)) rfl (zs_Vv rfl rfl (Or.inr ⟨Or.inl rfl, _, _, rfl, rfl⟩) (fun S5 => zs_goto rfl) (fun _ _ => rfl)))) (fun _ _ => rfl)))) (fun _ _ => rfl)))) (fun _ _ => rfl)))
set_option maxRecDepth 100000 in
theorem zq_133_33 (d n z : Nat)  (d0 d1 : Option Value) (S : z_St) : z_R133 d (n + 1) 33 z [d0, d1] [] S = some (.inl none, S) := by
  refine zs_run (L' := [none, none]) rfl rfl ?_
  exact zs_ret rfl
/-- SlipRoomModel.readExpression(I)V -/
noncomputable def z_R134 (d : Nat) : Nat → z_K := z_run false none [] (z_ew d) z_b134
theorem ze_134 (d : Nat) (as : List Value) (S : z_St) (h : Nat.ble (z_sl as).length 3 = true) : z_ew (d + 1) 134 as S = z_R134 d z_fuel 0 0 (z_in 3 as) [] S := zs_ew h
set_option maxRecDepth 100000 in
theorem zq_134_0 (d n z : Nat) (l1 : Int32) (d2 : Option Value) (S : z_St) : z_R134 d (n + 1) 0 z [some (.ref 70), some (.int l1), d2] [] S = if (S.1 70 24) = 0 then (z_R134 d n 8 z [some (.ref 70), some (.int l1), none] [] S) else (some (.inl none, S)) := by
  refine zs_run (L' := [some (.ref 70), some (.int l1), none]) rfl rfl ?_
  exact zs_aload_n rfl (zs_get0 (x := (S.1 70 24)) rfl rfl (zs_if_eq rfl (zs_ret rfl)))
set_option maxRecDepth 100000 in
theorem zq_134_8 (d n z : Nat) (l1 : Int32) (d2 : Option Value) (S : z_St) : z_R134 d (n + 1) 8 z [some (.ref 70), some (.int l1), d2] [] S = if (S.1 70 20) = (nI 2) then (z_R134 d n 33 z [some (.ref 70), some (.int l1), none] [] S) else (if (S.1 70 20) = (nI 1) then (z_R134 d n 33 z [some (.ref 70), some (.int l1), none] [] S) else (z_cli (z_ew d 123 [.ref 70, .int (nI 40)] S) (fun x2 S1 => if x2 = 0 then (z_R134 d n 37 z [some (.ref 70), some (.int l1), none] [] S1) else (z_R134 d n 33 z [some (.ref 70), some (.int l1), none] [] S1)) (z_hnd []))) := by
  refine zs_run (L' := [some (.ref 70), some (.int l1), none]) rfl rfl ?_
  exact zs_aload_n rfl (zs_get0 (x := (S.1 70 20)) rfl rfl (zs_iconst (v := nI 2) rfl (zs_ic_eq rfl (zs_aload_n rfl (zs_get0 (x := (S.1 70 20)) rfl rfl (zs_iconst (v := nI 1) rfl (zs_ic_eq rfl (zs_aload_n rfl (zs_bipush (v := nI 40) rfl (zs_Vi rfl rfl (Or.inr ⟨Or.inl rfl, _, _, rfl, rfl⟩) (fun x2 S1 => zs_if_eq rfl (zs_nil rfl)) (fun _ _ => rfl)))))))))))
set_option maxRecDepth 100000 in
theorem zq_134_33 (d n z : Nat) (l1 : Int32) (d2 : Option Value) (S : z_St) : z_R134 d (n + 1) 33 z [some (.ref 70), some (.int l1), d2] [] S = z_R134 d n 38 z [some (.ref 70), some (.int l1), none] [.int (nI 1)] S := by
  refine zs_run (L' := [some (.ref 70), some (.int l1), none]) rfl rfl ?_
  exact zs_iconst (v := nI 1) rfl (zs_goto rfl)
set_option maxRecDepth 100000 in
theorem zq_134_37 (d n z : Nat) (l1 : Int32) (d2 : Option Value) (S : z_St) : z_R134 d (n + 1) 37 z [some (.ref 70), some (.int l1), d2] [] S = z_R134 d n 38 z [some (.ref 70), some (.int l1), none] [.int (nI 0)] S := by
  refine zs_run (L' := [some (.ref 70), some (.int l1), none]) rfl rfl ?_
  exact zs_iconst (v := nI 0) rfl (zs_nil rfl)
set_option maxRecDepth 100000 in
theorem zq_134_38 (d n z : Nat) (l1 : Int32) (t0 : Int32) (d2 : Option Value) (S : z_St) : z_R134 d (n + 1) 38 z [some (.ref 70), some (.int l1), d2] [.int t0] S = if t0 = 0 then (z_clv (z_ew d 121 [.ref 70, .int (nI 1)] S) (fun S1 => z_R134 d n 62 z [some (.ref 70), some (.int l1), some (.int t0)] [] S1) (z_hnd [])) else (z_R134 d n 51 z [some (.ref 70), some (.int l1), some (.int t0)] [] S) := by
  refine zs_run (L' := [some (.ref 70), some (.int l1), none]) rfl rfl ?_
  exact zs_istore_n (L' := [some (.ref 70), some (.int l1), some (.int t0)]) rfl rfl (zs_iload_n rfl (zs_if_ne rfl (zs_aload_n rfl (zs_iconst (v := nI 1) rfl (zs_Vv rfl rfl (Or.inr ⟨Or.inl rfl, _, _, rfl, rfl⟩) (fun S1 => zs_goto rfl) (fun _ _ => rfl))))))
set_option maxRecDepth 100000 in
theorem zq_134_51 (d n z : Nat) (l1 : Int32) (d2 : Option Value) (S : z_St) : z_R134 d (n + 1) 51 z [some (.ref 70), some (.int l1), d2] [] S = if l1 = (nI 6) then (z_clv (z_ew d 121 [.ref 70, .int (nI 2)] S) (fun S1 => z_R134 d n 62 z [some (.ref 70), some (.int l1), none] [] S1) (z_hnd [])) else (z_R134 d n 62 z [some (.ref 70), some (.int l1), none] [] S) := by
  refine zs_run (L' := [some (.ref 70), some (.int l1), none]) rfl rfl ?_
  exact zs_iload_n rfl (zs_bipush (v := nI 6) rfl (zs_ic_ne rfl (zs_aload_n rfl (zs_iconst (v := nI 2) rfl (zs_Vv rfl rfl (Or.inr ⟨Or.inl rfl, _, _, rfl, rfl⟩) (fun S1 => zs_nil rfl) (fun _ _ => rfl))))))
set_option maxRecDepth 100000 in
theorem zq_134_62 (d n z : Nat) (l1 : Int32) (d2 : Option Value) (S : z_St) : z_R134 d (n + 1) 62 z [some (.ref 70), some (.int l1), d2] [] S = z_clv (z_ew d 133 [.ref 70, .int l1] S) (fun S1 => z_R134 d n 67 z [some (.ref 70), some (.int l1), none] [] S1) (z_hnd []) := by
  refine zs_run (L' := [some (.ref 70), some (.int l1), none]) rfl rfl ?_
  exact zs_aload_n rfl (zs_iload_n rfl (zs_Vv rfl rfl (Or.inr ⟨Or.inl rfl, _, _, rfl, rfl⟩) (fun S1 => zs_nil rfl) (fun _ _ => rfl)))
set_option maxRecDepth 100000 in
theorem zq_134_67 (d n z : Nat) (l1 : Int32) (d2 : Option Value) (S : z_St) : z_R134 d (n + 1) 67 z [some (.ref 70), some (.int l1), d2] [] S = z_cli (z_ew d 122 [.ref 70, .ref 1208] S) (fun x2 S1 => if x2 = 0 then (z_R134 d n 95 z [some (.ref 70), some (.int l1), none] [] S1) else (z_clv (z_ew d 120 [.ref 70] S1) (fun S3 => z_clv (z_ew d 133 [.ref 70, .int l1] S3) (fun S4 => z_clv (z_ew d 128 [.ref 70, .int (-nI 27)] S4) (fun S5 => z_R134 d n 67 z [some (.ref 70), some (.int l1), none] [] S5) (z_hnd [])) (z_hnd [])) (z_hnd []))) (z_hnd []) := by
  refine zs_run (L' := [some (.ref 70), some (.int l1), none]) rfl rfl ?_
  exact zs_aload_n rfl (zs_ldc_w1 (zs_Vi rfl rfl (Or.inr ⟨Or.inl rfl, _, _, rfl, rfl⟩) (fun x2 S1 => zs_if_eq rfl (zs_aload_n rfl (zs_Vv rfl rfl (Or.inr ⟨Or.inl rfl, _, _, rfl, rfl⟩) (fun S3 => zs_aload_n rfl (zs_iload_n rfl (zs_Vv rfl rfl (Or.inr ⟨Or.inl rfl, _, _, rfl, rfl⟩) (fun S4 => zs_aload_n rfl (zs_bipush (v := (-nI 27)) rfl (zs_Vv rfl rfl (Or.inr ⟨Or.inl rfl, _, _, rfl, rfl⟩) (fun S5 => zs_goto rfl) (fun _ _ => rfl)))) (fun _ _ => rfl)))) (fun _ _ => rfl)))) (fun _ _ => rfl)))
set_option maxRecDepth 100000 in
theorem zq_134_95 (d n z : Nat)  (d0 d1 d2 : Option Value) (S : z_St) : z_R134 d (n + 1) 95 z [d0, d1, d2] [] S = some (.inl none, S) := by
  refine zs_run (L' := [none, none, none]) rfl rfl ?_
  exact zs_ret rfl
/-- SlipRoomModel.readBook()V -/
noncomputable def z_R135 (d : Nat) : Nat → z_K := z_run false none [] (z_ew d) z_b135
theorem ze_135 (d : Nat) (as : List Value) (S : z_St) (h : Nat.ble (z_sl as).length 2 = true) : z_ew (d + 1) 135 as S = z_R135 d z_fuel 0 0 (z_in 2 as) [] S := zs_ew h
set_option maxRecDepth 100000 in
theorem zq_135_0 (d n z : Nat)  (d1 : Option Value) (S : z_St) : z_R135 d (n + 1) 0 z [some (.ref 70), d1] [] S = if (S.1 70 4) = (nI 10) then (z_clv (z_ew d 121 [.ref 70, .int (nI 2)] S) (fun S1 => z_R135 d n 14 z [some (.ref 70), none] [] S1) (z_hnd [])) else (z_R135 d n 14 z [some (.ref 70), none] [] S) := by
  refine zs_run (L' := [some (.ref 70), none]) rfl rfl ?_
  exact zs_aload_n rfl (zs_get0 (x := (S.1 70 4)) rfl rfl (zs_bipush (v := nI 10) rfl (zs_ic_ne rfl (zs_aload_n rfl (zs_iconst (v := nI 2) rfl (zs_Vv rfl rfl (Or.inr ⟨Or.inl rfl, _, _, rfl, rfl⟩) (fun S1 => zs_nil rfl) (fun _ _ => rfl)))))))
set_option maxRecDepth 100000 in
theorem zq_135_14 (d n z : Nat)  (d1 : Option Value) (S : z_St) : z_R135 d (n + 1) 14 z [some (.ref 70), d1] [] S = if (S.1 70 24) = 0 then (z_R135 d n 22 z [some (.ref 70), none] [] S) else (some (.inl none, S)) := by
  refine zs_run (L' := [some (.ref 70), none]) rfl rfl ?_
  exact zs_aload_n rfl (zs_get0 (x := (S.1 70 24)) rfl rfl (zs_if_eq rfl (zs_ret rfl)))
set_option maxRecDepth 100000 in
theorem zq_135_22 (d n z : Nat)  (d1 : Option Value) (S : z_St) : z_R135 d (n + 1) 22 z [some (.ref 70), d1] [] S = z_clv (z_ew d 120 [.ref 70] S) (fun S1 => z_cli (z_ew d 127 [.ref 70, .int (nI 1), .int (nI 400)] S1) (fun x3 S2 => cond (z_ix ((nI 10) + (S1.1 70 4)) 20) (z_cli (z_ew d 125 [.ref 70, .ref 1202] ((z_w1 S2.1 72 ((((nI 10) + (S1.1 70 4))).toNatClampNeg) x3), S2.2)) (fun x5 S4 => if x5 = 0 then (z_R135 d n 74 z [some (.ref 70), some (.int ((nI 10) + (S1.1 70 4)))] [.int ((nI 10) + (S1.1 70 4)), .ref 73] S4) else (z_cli (z_ew d 127 [.ref 70, .int (nI 1), .int (nI 400)] S4) (fun x7 S6 => z_R135 d n 75 z [some (.ref 70), some (.int ((nI 10) + (S1.1 70 4)))] [.int x7, .int ((nI 10) + (S1.1 70 4)), .ref 73] S6) (z_hnd []))) (z_hnd [])) none) (z_hnd [])) (z_hnd []) := by
  refine zs_run (L' := [some (.ref 70), none]) rfl rfl ?_
  exact zs_aload_n rfl (zs_Vv rfl rfl (Or.inr ⟨Or.inl rfl, _, _, rfl, rfl⟩) (fun S1 => zs_bipush (v := nI 10) rfl (zs_aload_n rfl (zs_get0 (x := (S1.1 70 4)) rfl rfl (zs_iadd (zs_istore_n (L' := [some (.ref 70), some (.int ((nI 10) + (S1.1 70 4)))]) rfl rfl (zs_aload_n rfl (zs_get2 (b := 72) rfl rfl (zs_iload_n rfl (zs_aload_n rfl (zs_iconst (v := nI 1) rfl (zs_sipush (v := nI 400) rfl (zs_Vi rfl rfl (Or.inr ⟨Or.inl rfl, _, _, rfl, rfl⟩) (fun x3 S2 => zs_ias (S' := ((z_w1 S2.1 72 ((((nI 10) + (S1.1 70 4))).toNatClampNeg) x3), S2.2)) rfl rfl rfl (zs_aload_n rfl (zs_get2 (b := 73) rfl rfl (zs_iload_n rfl (zs_aload_n rfl (zs_ldc_w1 (zs_Vi rfl rfl (Or.inr ⟨Or.inl rfl, _, _, rfl, rfl⟩) (fun x5 S4 => zs_if_eq rfl (zs_aload_n rfl (zs_iconst (v := nI 1) rfl (zs_sipush (v := nI 400) rfl (zs_Vi rfl rfl (Or.inr ⟨Or.inl rfl, _, _, rfl, rfl⟩) (fun x7 S6 => zs_goto rfl) (fun _ _ => rfl)))))) (fun _ _ => rfl)))))))) (fun _ _ => rfl))))))))))))) (fun _ _ => rfl))
set_option maxRecDepth 100000 in
theorem zq_135_74 (d n z : Nat) (t0 : Int32) (d1 : Option Value) (S : z_St) : z_R135 d (n + 1) 74 z [some (.ref 70), d1] [.int t0, .ref 73] S = z_R135 d n 75 z [some (.ref 70), none] [.int (nI 0), .int t0, .ref 73] S := by
  refine zs_run (L' := [some (.ref 70), none]) rfl rfl ?_
  exact zs_iconst (v := nI 0) rfl (zs_nil rfl)
set_option maxRecDepth 100000 in
theorem zq_135_75 (d n z : Nat) (t0 : Int32) (t1 : Int32) (d1 : Option Value) (S : z_St) : z_R135 d (n + 1) 75 z [some (.ref 70), d1] [.int t0, .int t1, .ref 73] S = cond (z_ix t1 20) (some (.inl none, ((z_w1 (z_w1 S.1 73 ((t1).toNatClampNeg) t0) 70 4 ((S.1 70 4) + (nI 1))), S.2))) none := by
  refine zs_run (L' := [some (.ref 70), none]) rfl rfl ?_
  exact zs_ias (S' := ((z_w1 S.1 73 ((t1).toNatClampNeg) t0), S.2)) rfl rfl rfl (zs_aload_n rfl (zs_dupr (zs_get0 (x := (S.1 70 4)) rfl rfl (zs_iconst (v := nI 1) rfl (zs_iadd (zs_put (S' := ((z_w1 (z_w1 S.1 73 ((t1).toNatClampNeg) t0) 70 4 ((S.1 70 4) + (nI 1))), S.2)) rfl rfl (zs_ret rfl)))))))
/-- SlipRoomModel.readReader()V -/
noncomputable def z_R136 (d : Nat) : Nat → z_K := z_run false none [] (z_ew d) z_b136
theorem ze_136 (d : Nat) (as : List Value) (S : z_St) (h : Nat.ble (z_sl as).length 2 = true) : z_ew (d + 1) 136 as S = z_R136 d z_fuel 0 0 (z_in 2 as) [] S := zs_ew h
set_option maxRecDepth 100000 in
theorem zq_136_0 (d n z : Nat)  (d1 : Option Value) (S : z_St) : z_R136 d (n + 1) 0 z [some (.ref 70), d1] [] S = if (S.1 70 5) = (nI 8) then (z_clv (z_ew d 121 [.ref 70, .int (nI 2)] S) (fun S1 => z_R136 d n 14 z [some (.ref 70), none] [] S1) (z_hnd [])) else (z_R136 d n 14 z [some (.ref 70), none] [] S) := by
  refine zs_run (L' := [some (.ref 70), none]) rfl rfl ?_
  exact zs_aload_n rfl (zs_get0 (x := (S.1 70 5)) rfl rfl (zs_bipush (v := nI 8) rfl (zs_ic_ne rfl (zs_aload_n rfl (zs_iconst (v := nI 2) rfl (zs_Vv rfl rfl (Or.inr ⟨Or.inl rfl, _, _, rfl, rfl⟩) (fun S1 => zs_nil rfl) (fun _ _ => rfl)))))))
set_option maxRecDepth 100000 in
theorem zq_136_14 (d n z : Nat)  (d1 : Option Value) (S : z_St) : z_R136 d (n + 1) 14 z [some (.ref 70), d1] [] S = if (S.1 70 24) = 0 then (z_R136 d n 22 z [some (.ref 70), none] [] S) else (some (.inl none, S)) := by
  refine zs_run (L' := [some (.ref 70), none]) rfl rfl ?_
  exact zs_aload_n rfl (zs_get0 (x := (S.1 70 24)) rfl rfl (zs_if_eq rfl (zs_ret rfl)))
set_option maxRecDepth 100000 in
theorem zq_136_22 (d n z : Nat)  (d1 : Option Value) (S : z_St) : z_R136 d (n + 1) 22 z [some (.ref 70), d1] [] S = z_clv (z_ew d 120 [.ref 70] S) (fun S1 => z_cli (z_ew d 127 [.ref 70, .int (nI 1), .int (nI 60)] S1) (fun x3 S2 => cond (z_ix ((nI 8) + (S1.1 70 5)) 16) (z_cli (z_ew d 125 [.ref 70, .ref 1204] ((z_w1 S2.1 74 ((((nI 8) + (S1.1 70 5))).toNatClampNeg) x3), S2.2)) (fun x5 S4 => if x5 = 0 then (z_R136 d n 71 z [some (.ref 70), some (.int ((nI 8) + (S1.1 70 5)))] [.int ((nI 8) + (S1.1 70 5)), .ref 75] S4) else (z_cli (z_ew d 127 [.ref 70, .int (nI 0), .int (nI 3)] S4) (fun x7 S6 => z_R136 d n 72 z [some (.ref 70), some (.int ((nI 8) + (S1.1 70 5)))] [.int x7, .int ((nI 8) + (S1.1 70 5)), .ref 75] S6) (z_hnd []))) (z_hnd [])) none) (z_hnd [])) (z_hnd []) := by
  refine zs_run (L' := [some (.ref 70), none]) rfl rfl ?_
  exact zs_aload_n rfl (zs_Vv rfl rfl (Or.inr ⟨Or.inl rfl, _, _, rfl, rfl⟩) (fun S1 => zs_bipush (v := nI 8) rfl (zs_aload_n rfl (zs_get0 (x := (S1.1 70 5)) rfl rfl (zs_iadd (zs_istore_n (L' := [some (.ref 70), some (.int ((nI 8) + (S1.1 70 5)))]) rfl rfl (zs_aload_n rfl (zs_get2 (b := 74) rfl rfl (zs_iload_n rfl (zs_aload_n rfl (zs_iconst (v := nI 1) rfl (zs_bipush (v := nI 60) rfl (zs_Vi rfl rfl (Or.inr ⟨Or.inl rfl, _, _, rfl, rfl⟩) (fun x3 S2 => zs_ias (S' := ((z_w1 S2.1 74 ((((nI 8) + (S1.1 70 5))).toNatClampNeg) x3), S2.2)) rfl rfl rfl (zs_aload_n rfl (zs_get2 (b := 75) rfl rfl (zs_iload_n rfl (zs_aload_n rfl (zs_ldc_w1 (zs_Vi rfl rfl (Or.inr ⟨Or.inl rfl, _, _, rfl, rfl⟩) (fun x5 S4 => zs_if_eq rfl (zs_aload_n rfl (zs_iconst (v := nI 0) rfl (zs_iconst (v := nI 3) rfl (zs_Vi rfl rfl (Or.inr ⟨Or.inl rfl, _, _, rfl, rfl⟩) (fun x7 S6 => zs_goto rfl) (fun _ _ => rfl)))))) (fun _ _ => rfl)))))))) (fun _ _ => rfl))))))))))))) (fun _ _ => rfl))
set_option maxRecDepth 100000 in
theorem zq_136_71 (d n z : Nat) (l1 : Int32) (t0 : Int32) (S : z_St) : z_R136 d (n + 1) 71 z [some (.ref 70), some (.int l1)] [.int t0, .ref 75] S = z_R136 d n 72 z [some (.ref 70), some (.int l1)] [.int (nI 0), .int t0, .ref 75] S := by
  refine zs_run (L' := [some (.ref 70), some (.int l1)]) rfl rfl ?_
  exact zs_iconst (v := nI 0) rfl (zs_nil rfl)
set_option maxRecDepth 100000 in
theorem zq_136_72 (d n z : Nat) (l1 : Int32) (t0 : Int32) (t1 : Int32) (S : z_St) : z_R136 d (n + 1) 72 z [some (.ref 70), some (.int l1)] [.int t0, .int t1, .ref 75] S = cond (z_ix t1 16) (z_cli (z_ew d 125 [.ref 70, .ref 1205] ((z_w1 S.1 75 ((t1).toNatClampNeg) t0), S.2)) (fun x2 S1 => if x2 = 0 then (z_R136 d n 98 z [some (.ref 70), some (.int l1)] [.int l1, .ref 76] S1) else (z_cli (z_ew d 127 [.ref 70, .int (nI 0), .int (nI 20)] S1) (fun x4 S3 => z_R136 d n 99 z [some (.ref 70), some (.int l1)] [.int x4, .int l1, .ref 76] S3) (z_hnd []))) (z_hnd [])) none := by
  refine zs_run (L' := [some (.ref 70), some (.int l1)]) rfl rfl ?_
  exact zs_ias (S' := ((z_w1 S.1 75 ((t1).toNatClampNeg) t0), S.2)) rfl rfl rfl (zs_aload_n rfl (zs_get2 (b := 76) rfl rfl (zs_iload_n rfl (zs_aload_n rfl (zs_ldc_w1 (zs_Vi rfl rfl (Or.inr ⟨Or.inl rfl, _, _, rfl, rfl⟩) (fun x2 S1 => zs_if_eq rfl (zs_aload_n rfl (zs_iconst (v := nI 0) rfl (zs_bipush (v := nI 20) rfl (zs_Vi rfl rfl (Or.inr ⟨Or.inl rfl, _, _, rfl, rfl⟩) (fun x4 S3 => zs_goto rfl) (fun _ _ => rfl)))))) (fun _ _ => rfl)))))))
set_option maxRecDepth 100000 in
theorem zq_136_98 (d n z : Nat) (l1 : Int32) (t0 : Int32) (S : z_St) : z_R136 d (n + 1) 98 z [some (.ref 70), some (.int l1)] [.int t0, .ref 76] S = z_R136 d n 99 z [some (.ref 70), some (.int l1)] [.int (nI 0), .int t0, .ref 76] S := by
  refine zs_run (L' := [some (.ref 70), some (.int l1)]) rfl rfl ?_
  exact zs_iconst (v := nI 0) rfl (zs_nil rfl)
set_option maxRecDepth 100000 in
theorem zq_136_99 (d n z : Nat) (l1 : Int32) (t0 : Int32) (t1 : Int32) (S : z_St) : z_R136 d (n + 1) 99 z [some (.ref 70), some (.int l1)] [.int t0, .int t1, .ref 76] S = cond (z_ix t1 16) (z_cli (z_ew d 125 [.ref 70, .ref 1206] ((z_w1 S.1 76 ((t1).toNatClampNeg) t0), S.2)) (fun x2 S1 => cond (z_ix l1 16) (cond (z_ix l1 16) (z_cli (z_ew d 125 [.ref 70, .ref 1207] ((z_w1 (z_w1 S1.1 81 ((l1).toNatClampNeg) (vp_nar .boolean x2)) 77 ((l1).toNatClampNeg) (S1.1 70 27)), S1.2)) (fun x4 S3 => if x4 = 0 then (z_R136 d n 138 z [some (.ref 70), some (.int l1)] [] S3) else (z_clv (z_ew d 134 [.ref 70, .int (nI 0)] S3) (fun S5 => z_R136 d n 138 z [some (.ref 70), some (.int l1)] [] S5) (z_hnd []))) (z_hnd [])) none) none) (z_hnd [])) none := by
  refine zs_run (L' := [some (.ref 70), some (.int l1)]) rfl rfl ?_
  exact zs_ias (S' := ((z_w1 S.1 76 ((t1).toNatClampNeg) t0), S.2)) rfl rfl rfl (zs_aload_n rfl (zs_get2 (b := 81) rfl rfl (zs_iload_n rfl (zs_aload_n rfl (zs_ldc_w1 (zs_Vi rfl rfl (Or.inr ⟨Or.inl rfl, _, _, rfl, rfl⟩) (fun x2 S1 => zs_bas3 (S' := ((z_w1 S1.1 81 ((l1).toNatClampNeg) (vp_nar .boolean x2)), S1.2)) rfl rfl rfl (zs_aload_n rfl (zs_get2 (b := 77) rfl rfl (zs_iload_n rfl (zs_aload_n rfl (zs_get0 (x := (S1.1 70 27)) rfl rfl (zs_ias (S' := ((z_w1 (z_w1 S1.1 81 ((l1).toNatClampNeg) (vp_nar .boolean x2)) 77 ((l1).toNatClampNeg) (S1.1 70 27)), S1.2)) rfl rfl rfl (zs_aload_n rfl (zs_ldc_w1 (zs_Vi rfl rfl (Or.inr ⟨Or.inl rfl, _, _, rfl, rfl⟩) (fun x4 S3 => zs_if_eq rfl (zs_aload_n rfl (zs_iconst (v := nI 0) rfl (zs_Vv rfl rfl (Or.inr ⟨Or.inl rfl, _, _, rfl, rfl⟩) (fun S5 => zs_nil rfl) (fun _ _ => rfl))))) (fun _ _ => rfl))))))))))) (fun _ _ => rfl)))))))
set_option maxRecDepth 100000 in
theorem zq_136_138 (d n z : Nat) (l1 : Int32) (S : z_St) : z_R136 d (n + 1) 138 z [some (.ref 70), some (.int l1)] [] S = cond (z_ix l1 16) (some (.inl none, ((z_w1 (z_w1 S.1 78 ((l1).toNatClampNeg) (S.1 70 27)) 70 5 ((S.1 70 5) + (nI 1))), S.2))) none := by
  refine zs_run (L' := [some (.ref 70), some (.int l1)]) rfl rfl ?_
  exact zs_aload_n rfl (zs_get2 (b := 78) rfl rfl (zs_iload_n rfl (zs_aload_n rfl (zs_get0 (x := (S.1 70 27)) rfl rfl (zs_ias (S' := ((z_w1 S.1 78 ((l1).toNatClampNeg) (S.1 70 27)), S.2)) rfl rfl rfl (zs_aload_n rfl (zs_dupr (zs_get0 (x := (S.1 70 5)) rfl rfl (zs_iconst (v := nI 1) rfl (zs_iadd (zs_put (S' := ((z_w1 (z_w1 S.1 78 ((l1).toNatClampNeg) (S.1 70 27)) 70 5 ((S.1 70 5) + (nI 1))), S.2)) rfl rfl (zs_ret rfl))))))))))))
/-- SlipRoomModel.room(I)I -/
noncomputable def z_R137 (d : Nat) : Nat → z_K := z_run false (some .int) [] (z_ew d) z_b137
theorem ze_137 (d : Nat) (as : List Value) (S : z_St) (h : Nat.ble (z_sl as).length 2 = true) : z_ew (d + 1) 137 as S = z_R137 d z_fuel 0 0 (z_in 2 as) [] S := zs_ew h
set_option maxRecDepth 100000 in
theorem zq_137_0 (d n z : Nat) (l1 : Int32) (S : z_St) : z_R137 d (n + 1) 0 z [some (.ref 70), some (.int l1)] [] S = if l1 < 0 then (z_R137 d n 17 z [some (.ref 70), some (.int l1)] [] ((z_w1 S.1 70 1 (nI 0)), S.2)) else (if l1 ≤ (S.1 70 17) then (z_R137 d n 23 z [some (.ref 70), some (.int l1)] [] ((z_w1 S.1 70 1 (nI 0)), S.2)) else (z_R137 d n 17 z [some (.ref 70), some (.int l1)] [] ((z_w1 S.1 70 1 (nI 0)), S.2))) := by
  refine zs_run (L' := [some (.ref 70), some (.int l1)]) rfl rfl ?_
  exact zs_aload_n rfl (zs_iconst (v := nI 0) rfl (zs_put (S' := ((z_w1 S.1 70 1 (nI 0)), S.2)) rfl rfl (zs_iload_n rfl (zs_if_lt rfl (zs_iload_n rfl (zs_aload_n rfl (zs_get0 (x := (S.1 70 17)) rfl rfl (zs_ic_le rfl (zs_nil rfl)))))))))
set_option maxRecDepth 100000 in
theorem zq_137_17 (d n z : Nat)  (d1 : Option Value) (S : z_St) : z_R137 d (n + 1) 17 z [some (.ref 70), d1] [] S = z_cli (z_ew d 111 [.ref 70, .int (nI 1)] S) (fun x2 S1 => some (.inl (some (.int x2)), S1)) (z_hnd []) := by
  refine zs_run (L' := [some (.ref 70), none]) rfl rfl ?_
  exact zs_aload_n rfl (zs_iconst (v := nI 1) rfl (zs_Vi rfl rfl (Or.inr ⟨Or.inl rfl, _, _, rfl, rfl⟩) (fun x2 S1 => zs_iret rfl) (fun _ _ => rfl)))
set_option maxRecDepth 100000 in
theorem zq_137_23 (d n z : Nat) (l1 : Int32) (S : z_St) : z_R137 d (n + 1) 23 z [some (.ref 70), some (.int l1)] [] S = z_clv (z_ew d 120 [.ref 70] ((z_w1 (z_w1 (z_w1 (z_w1 (z_w1 (z_w1 (z_w1 (z_w1 S.1 70 17 (nI 0)) 70 19 l1) 70 18 (nI 0)) 70 24 (nI 0)) 70 26 (-nI 1)) 70 27 (nI 0)) 70 4 (nI 0)) 70 5 (nI 0)), S.2)) (fun S1 => z_R137 d n 67 z [some (.ref 70), some (.int l1)] [] S1) (z_hnd []) := by
  refine zs_run (L' := [some (.ref 70), some (.int l1)]) rfl rfl ?_
  exact zs_aload_n rfl (zs_iconst (v := nI 0) rfl (zs_put (S' := ((z_w1 S.1 70 17 (nI 0)), S.2)) rfl rfl (zs_aload_n rfl (zs_iload_n rfl (zs_put (S' := ((z_w1 (z_w1 S.1 70 17 (nI 0)) 70 19 l1), S.2)) rfl rfl (zs_aload_n rfl (zs_iconst (v := nI 0) rfl (zs_put (S' := ((z_w1 (z_w1 (z_w1 S.1 70 17 (nI 0)) 70 19 l1) 70 18 (nI 0)), S.2)) rfl rfl (zs_aload_n rfl (zs_iconst (v := nI 0) rfl (zs_put (S' := ((z_w1 (z_w1 (z_w1 (z_w1 S.1 70 17 (nI 0)) 70 19 l1) 70 18 (nI 0)) 70 24 (nI 0)), S.2)) rfl rfl (zs_aload_n rfl (zs_iconst (v := (-nI 1)) rfl (zs_put (S' := ((z_w1 (z_w1 (z_w1 (z_w1 (z_w1 S.1 70 17 (nI 0)) 70 19 l1) 70 18 (nI 0)) 70 24 (nI 0)) 70 26 (-nI 1)), S.2)) rfl rfl (zs_aload_n rfl (zs_iconst (v := nI 0) rfl (zs_put (S' := ((z_w1 (z_w1 (z_w1 (z_w1 (z_w1 (z_w1 S.1 70 17 (nI 0)) 70 19 l1) 70 18 (nI 0)) 70 24 (nI 0)) 70 26 (-nI 1)) 70 27 (nI 0)), S.2)) rfl rfl (zs_aload_n rfl (zs_iconst (v := nI 0) rfl (zs_put (S' := ((z_w1 (z_w1 (z_w1 (z_w1 (z_w1 (z_w1 (z_w1 S.1 70 17 (nI 0)) 70 19 l1) 70 18 (nI 0)) 70 24 (nI 0)) 70 26 (-nI 1)) 70 27 (nI 0)) 70 4 (nI 0)), S.2)) rfl rfl (zs_aload_n rfl (zs_iconst (v := nI 0) rfl (zs_put (S' := ((z_w1 (z_w1 (z_w1 (z_w1 (z_w1 (z_w1 (z_w1 (z_w1 S.1 70 17 (nI 0)) 70 19 l1) 70 18 (nI 0)) 70 24 (nI 0)) 70 26 (-nI 1)) 70 27 (nI 0)) 70 4 (nI 0)) 70 5 (nI 0)), S.2)) rfl rfl (zs_aload_n rfl (zs_Vv rfl rfl (Or.inr ⟨Or.inl rfl, _, _, rfl, rfl⟩) (fun S1 => zs_nil rfl) (fun _ _ => rfl))))))))))))))))))))))))))
set_option maxRecDepth 100000 in
theorem zq_137_67 (d n z : Nat)  (d1 : Option Value) (S : z_St) : z_R137 d (n + 1) 67 z [some (.ref 70), d1] [] S = if (S.1 70 24) = 0 then (if (S.1 70 20) = 0 then (z_R137 d n 128 z [some (.ref 70), none] [] S) else (z_cli (z_ew d 122 [.ref 70, .ref 1201] S) (fun x2 S1 => if x2 = 0 then (z_R137 d n 97 z [some (.ref 70), none] [] S1) else (z_clv (z_ew d 135 [.ref 70] S1) (fun S3 => z_R137 d n 119 z [some (.ref 70), none] [] S3) (z_hnd []))) (z_hnd []))) else (z_R137 d n 128 z [some (.ref 70), none] [] S) := by
  refine zs_run (L' := [some (.ref 70), none]) rfl rfl ?_
  exact zs_aload_n rfl (zs_get0 (x := (S.1 70 24)) rfl rfl (zs_if_ne rfl (zs_aload_n rfl (zs_get0 (x := (S.1 70 20)) rfl rfl (zs_if_eq rfl (zs_aload_n rfl (zs_ldc1 (zs_Vi rfl rfl (Or.inr ⟨Or.inl rfl, _, _, rfl, rfl⟩) (fun x2 S1 => zs_if_eq rfl (zs_aload_n rfl (zs_Vv rfl rfl (Or.inr ⟨Or.inl rfl, _, _, rfl, rfl⟩) (fun S3 => zs_goto rfl) (fun _ _ => rfl)))) (fun _ _ => rfl)))))))))
set_option maxRecDepth 100000 in
theorem zq_137_97 (d n z : Nat)  (d1 : Option Value) (S : z_St) : z_R137 d (n + 1) 97 z [some (.ref 70), d1] [] S = z_cli (z_ew d 122 [.ref 70, .ref 1203] S) (fun x2 S1 => if x2 = 0 then (z_R137 d n 114 z [some (.ref 70), none] [] S1) else (z_clv (z_ew d 136 [.ref 70] S1) (fun S3 => z_R137 d n 119 z [some (.ref 70), none] [] S3) (z_hnd []))) (z_hnd []) := by
  refine zs_run (L' := [some (.ref 70), none]) rfl rfl ?_
  exact zs_aload_n rfl (zs_ldc_w1 (zs_Vi rfl rfl (Or.inr ⟨Or.inl rfl, _, _, rfl, rfl⟩) (fun x2 S1 => zs_if_eq rfl (zs_aload_n rfl (zs_Vv rfl rfl (Or.inr ⟨Or.inl rfl, _, _, rfl, rfl⟩) (fun S3 => zs_goto rfl) (fun _ _ => rfl)))) (fun _ _ => rfl)))
set_option maxRecDepth 100000 in
theorem zq_137_114 (d n z : Nat)  (d1 : Option Value) (S : z_St) : z_R137 d (n + 1) 114 z [some (.ref 70), d1] [] S = z_clv (z_ew d 121 [.ref 70, .int (nI 1)] S) (fun S1 => z_R137 d n 119 z [some (.ref 70), none] [] S1) (z_hnd []) := by
  refine zs_run (L' := [some (.ref 70), none]) rfl rfl ?_
  exact zs_aload_n rfl (zs_iconst (v := nI 1) rfl (zs_Vv rfl rfl (Or.inr ⟨Or.inl rfl, _, _, rfl, rfl⟩) (fun S1 => zs_nil rfl) (fun _ _ => rfl)))
set_option maxRecDepth 100000 in
theorem zq_137_119 (d n z : Nat)  (d1 : Option Value) (S : z_St) : z_R137 d (n + 1) 119 z [some (.ref 70), d1] [] S = z_clv (z_ew d 126 [.ref 70, .int (nI 59)] S) (fun S1 => z_R137 d n 67 z [some (.ref 70), none] [] S1) (z_hnd []) := by
  refine zs_run (L' := [some (.ref 70), none]) rfl rfl ?_
  exact zs_aload_n rfl (zs_bipush (v := nI 59) rfl (zs_Vv rfl rfl (Or.inr ⟨Or.inl rfl, _, _, rfl, rfl⟩) (fun S1 => zs_goto rfl) (fun _ _ => rfl)))
set_option maxRecDepth 100000 in
theorem zq_137_128 (d n z : Nat)  (d1 : Option Value) (S : z_St) : z_R137 d (n + 1) 128 z [some (.ref 70), d1] [] S = if (S.1 70 24) = 0 then (z_R137 d n 158 z [some (.ref 70), none] [] S) else (some (.inl (some (.int (S.1 70 24))), ((z_w1 (z_w1 S.1 70 26 (S.1 70 25)) 80 0 ((S.1 80 0) + (nI 1))), S.2))) := by
  refine zs_run (L' := [some (.ref 70), none]) rfl rfl ?_
  exact zs_aload_n rfl (zs_get0 (x := (S.1 70 24)) rfl rfl (zs_if_eq rfl (zs_aload_n rfl (zs_aload_n rfl (zs_get0 (x := (S.1 70 25)) rfl rfl (zs_put (S' := ((z_w1 S.1 70 26 (S.1 70 25)), S.2)) rfl rfl (zs_aload_n rfl (zs_get2 (b := 80) rfl rfl (zs_iconst (v := nI 0) rfl (zs_dup2 (zs_x (zs_ia (v := (S.1 80 0)) rfl rfl rfl rfl (zs_iconst (v := nI 1) rfl (zs_iadd (zs_x (zs_ias (S' := ((z_w1 (z_w1 S.1 70 26 (S.1 70 25)) 80 0 ((S.1 80 0) + (nI 1))), S.2)) rfl rfl rfl (zs_aload_n rfl (zs_get0 (x := (S.1 70 24)) rfl rfl (zs_iret rfl)))) (z_ixn rfl rfl))))) (z_ixn rfl rfl))))))))))))
set_option maxRecDepth 100000 in
theorem zq_137_158 (d n z : Nat)  (d1 : Option Value) (S : z_St) : z_R137 d (n + 1) 158 z [some (.ref 70), d1] [] S = z_clv (z_ew d 138 [.ref 70] S) (fun S1 => some (.inl (some (.int (nI 0))), S1)) (z_hnd []) := by
  refine zs_run (L' := [some (.ref 70), none]) rfl rfl ?_
  exact zs_aload_n rfl (zs_Vv rfl rfl (Or.inr ⟨Or.inl rfl, _, _, rfl, rfl⟩) (fun S1 => zs_iconst (v := nI 0) rfl (zs_iret rfl)) (fun _ _ => rfl))
/-- SlipRoomModel.take()V -/
noncomputable def z_R138 (d : Nat) : Nat → z_K := z_run false none [] (z_ew d) z_b138
theorem ze_138 (d : Nat) (as : List Value) (S : z_St) (h : Nat.ble (z_sl as).length 2 = true) : z_ew (d + 1) 138 as S = z_R138 d z_fuel 0 0 (z_in 2 as) [] S := zs_ew h
set_option maxRecDepth 100000 in
theorem zq_138_0 (d n z : Nat)  (d1 : Option Value) (S : z_St) : z_R138 d (n + 1) 0 z [some (.ref 70), d1] [] S = z_R138 d n 18 z [some (.ref 70), some (.int (nI 0))] [] ((z_w1 (z_w1 S.1 70 2 (S.1 70 4)) 70 3 (S.1 70 5)), S.2) := by
  refine zs_run (L' := [some (.ref 70), none]) rfl rfl ?_
  exact zs_aload_n rfl (zs_aload_n rfl (zs_get0 (x := (S.1 70 4)) rfl rfl (zs_put (S' := ((z_w1 S.1 70 2 (S.1 70 4)), S.2)) rfl rfl (zs_aload_n rfl (zs_aload_n rfl (zs_get0 (x := (S.1 70 5)) rfl rfl (zs_put (S' := ((z_w1 (z_w1 S.1 70 2 (S.1 70 4)) 70 3 (S.1 70 5)), S.2)) rfl rfl (zs_iconst (v := nI 0) rfl (zs_istore_n (L' := [some (.ref 70), some (.int (nI 0))]) rfl rfl (zs_nil rfl))))))))))
set_option maxRecDepth 100000 in
theorem zq_138_18 (d n z : Nat) (l1 : Int32) (S : z_St) : z_R138 d (n + 1) 18 z [some (.ref 70), some (.int l1)] [] S = if (nI 10) ≤ l1 then (z_R138 d n 60 z [some (.ref 70), some (.int l1)] [] S) else (cond (z_ix ((nI 10) + l1) 20) (cond (z_ix l1 20) (cond (z_ix ((nI 10) + l1) 20) (cond (z_ix l1 20) (z_R138 d n 18 z [some (.ref 70), some (.int (l1 + (nI 1)))] [] ((z_w1 (z_w1 S.1 72 ((l1).toNatClampNeg) (S.1 72 ((((nI 10) + l1)).toNatClampNeg))) 73 ((l1).toNatClampNeg) (S.1 73 ((((nI 10) + l1)).toNatClampNeg))), S.2)) none) none) none) none) := by
  refine zs_run (L' := [some (.ref 70), some (.int l1)]) rfl rfl ?_
  exact zs_iload_n rfl (zs_bipush (v := nI 10) rfl (zs_ic_ge rfl (zs_aload_n rfl (zs_get2 (b := 72) rfl rfl (zs_iload_n rfl (zs_aload_n rfl (zs_get2 (b := 72) rfl rfl (zs_bipush (v := nI 10) rfl (zs_iload_n rfl (zs_iadd (zs_ia (v := (S.1 72 ((((nI 10) + l1)).toNatClampNeg))) rfl rfl rfl rfl (zs_ias (S' := ((z_w1 S.1 72 ((l1).toNatClampNeg) (S.1 72 ((((nI 10) + l1)).toNatClampNeg))), S.2)) rfl rfl rfl (zs_aload_n rfl (zs_get2 (b := 73) rfl rfl (zs_iload_n rfl (zs_aload_n rfl (zs_get2 (b := 73) rfl rfl (zs_bipush (v := nI 10) rfl (zs_iload_n rfl (zs_iadd (zs_ia (v := (S.1 73 ((((nI 10) + l1)).toNatClampNeg))) rfl rfl rfl rfl (zs_ias (S' := ((z_w1 (z_w1 S.1 72 ((l1).toNatClampNeg) (S.1 72 ((((nI 10) + l1)).toNatClampNeg))) 73 ((l1).toNatClampNeg) (S.1 73 ((((nI 10) + l1)).toNatClampNeg))), S.2)) rfl rfl rfl (zs_iinc (v := nI 1) (L' := [some (.ref 70), some (.int (l1 + (nI 1)))]) rfl rfl rfl rfl (zs_goto rfl))))))))))))))))))))))))
set_option maxRecDepth 100000 in
theorem zq_138_60 (d n z : Nat)  (d1 : Option Value) (S : z_St) : z_R138 d (n + 1) 60 z [some (.ref 70), d1] [] S = z_R138 d n 62 z [some (.ref 70), some (.int (nI 0))] [] S := by
  refine zs_run (L' := [some (.ref 70), none]) rfl rfl ?_
  exact zs_iconst (v := nI 0) rfl (zs_istore_n (L' := [some (.ref 70), some (.int (nI 0))]) rfl rfl (zs_nil rfl))
set_option maxRecDepth 100000 in
theorem zq_138_62 (d n z : Nat) (l1 : Int32) (S : z_St) : z_R138 d (n + 1) 62 z [some (.ref 70), some (.int l1)] [] S = if (nI 8) ≤ l1 then (z_R138 d n 164 z [some (.ref 70), some (.int l1)] [] S) else (cond (z_ix ((nI 8) + l1) 16) (cond (z_ix l1 16) (cond (z_ix ((nI 8) + l1) 16) (cond (z_ix l1 16) (cond (z_ix ((nI 8) + l1) 16) (cond (z_ix l1 16) (cond (z_ix ((nI 8) + l1) 16) (cond (z_ix l1 16) (cond (z_ix ((nI 8) + l1) 16) (cond (z_ix l1 16) (cond (z_ix ((nI 8) + l1) 16) (cond (z_ix l1 16) (z_R138 d n 62 z [some (.ref 70), some (.int (l1 + (nI 1)))] [] ((z_w1 (z_w1 (z_w1 (z_w1 (z_w1 (z_w1 S.1 74 ((l1).toNatClampNeg) (S.1 74 ((((nI 8) + l1)).toNatClampNeg))) 75 ((l1).toNatClampNeg) (S.1 75 ((((nI 8) + l1)).toNatClampNeg))) 76 ((l1).toNatClampNeg) (S.1 76 ((((nI 8) + l1)).toNatClampNeg))) 81 ((l1).toNatClampNeg) (vp_nar .boolean (S.1 81 ((((nI 8) + l1)).toNatClampNeg)))) 77 ((l1).toNatClampNeg) (S.1 77 ((((nI 8) + l1)).toNatClampNeg))) 78 ((l1).toNatClampNeg) (S.1 78 ((((nI 8) + l1)).toNatClampNeg))), S.2)) none) none) none) none) none) none) none) none) none) none) none) none) := by
  refine zs_run (L' := [some (.ref 70), some (.int l1)]) rfl rfl ?_
  exact zs_iload_n rfl (zs_bipush (v := nI 8) rfl (zs_ic_ge rfl (zs_aload_n rfl (zs_get2 (b := 74) rfl rfl (zs_iload_n rfl (zs_aload_n rfl (zs_get2 (b := 74) rfl rfl (zs_bipush (v := nI 8) rfl (zs_iload_n rfl (zs_iadd (zs_ia (v := (S.1 74 ((((nI 8) + l1)).toNatClampNeg))) rfl rfl rfl rfl (zs_ias (S' := ((z_w1 S.1 74 ((l1).toNatClampNeg) (S.1 74 ((((nI 8) + l1)).toNatClampNeg))), S.2)) rfl rfl rfl (zs_aload_n rfl (zs_get2 (b := 75) rfl rfl (zs_iload_n rfl (zs_aload_n rfl (zs_get2 (b := 75) rfl rfl (zs_bipush (v := nI 8) rfl (zs_iload_n rfl (zs_iadd (zs_ia (v := (S.1 75 ((((nI 8) + l1)).toNatClampNeg))) rfl rfl rfl rfl (zs_ias (S' := ((z_w1 (z_w1 S.1 74 ((l1).toNatClampNeg) (S.1 74 ((((nI 8) + l1)).toNatClampNeg))) 75 ((l1).toNatClampNeg) (S.1 75 ((((nI 8) + l1)).toNatClampNeg))), S.2)) rfl rfl rfl (zs_aload_n rfl (zs_get2 (b := 76) rfl rfl (zs_iload_n rfl (zs_aload_n rfl (zs_get2 (b := 76) rfl rfl (zs_bipush (v := nI 8) rfl (zs_iload_n rfl (zs_iadd (zs_ia (v := (S.1 76 ((((nI 8) + l1)).toNatClampNeg))) rfl rfl rfl rfl (zs_ias (S' := ((z_w1 (z_w1 (z_w1 S.1 74 ((l1).toNatClampNeg) (S.1 74 ((((nI 8) + l1)).toNatClampNeg))) 75 ((l1).toNatClampNeg) (S.1 75 ((((nI 8) + l1)).toNatClampNeg))) 76 ((l1).toNatClampNeg) (S.1 76 ((((nI 8) + l1)).toNatClampNeg))), S.2)) rfl rfl rfl (zs_aload_n rfl (zs_get2 (b := 81) rfl rfl (zs_iload_n rfl (zs_aload_n rfl (zs_get2 (b := 81) rfl rfl (zs_bipush (v := nI 8) rfl (zs_iload_n rfl (zs_iadd (zs_ba (v := (S.1 81 ((((nI 8) + l1)).toNatClampNeg))) rfl rfl rfl (zs_bas3 (S' := ((z_w1 (z_w1 (z_w1 (z_w1 S.1 74 ((l1).toNatClampNeg) (S.1 74 ((((nI 8) + l1)).toNatClampNeg))) 75 ((l1).toNatClampNeg) (S.1 75 ((((nI 8) + l1)).toNatClampNeg))) 76 ((l1).toNatClampNeg) (S.1 76 ((((nI 8) + l1)).toNatClampNeg))) 81 ((l1).toNatClampNeg) (vp_nar .boolean (S.1 81 ((((nI 8) + l1)).toNatClampNeg)))), S.2)) rfl rfl rfl (zs_aload_n rfl (zs_get2 (b := 77) rfl rfl (zs_iload_n rfl (zs_aload_n rfl (zs_get2 (b := 77) rfl rfl (zs_bipush (v := nI 8) rfl (zs_iload_n rfl (zs_iadd (zs_ia (v := (S.1 77 ((((nI 8) + l1)).toNatClampNeg))) rfl rfl rfl rfl (zs_ias (S' := ((z_w1 (z_w1 (z_w1 (z_w1 (z_w1 S.1 74 ((l1).toNatClampNeg) (S.1 74 ((((nI 8) + l1)).toNatClampNeg))) 75 ((l1).toNatClampNeg) (S.1 75 ((((nI 8) + l1)).toNatClampNeg))) 76 ((l1).toNatClampNeg) (S.1 76 ((((nI 8) + l1)).toNatClampNeg))) 81 ((l1).toNatClampNeg) (vp_nar .boolean (S.1 81 ((((nI 8) + l1)).toNatClampNeg)))) 77 ((l1).toNatClampNeg) (S.1 77 ((((nI 8) + l1)).toNatClampNeg))), S.2)) rfl rfl rfl (zs_aload_n rfl (zs_get2 (b := 78) rfl rfl (zs_iload_n rfl (zs_aload_n rfl (zs_get2 (b := 78) rfl rfl (zs_bipush (v := nI 8) rfl (zs_iload_n rfl (zs_iadd (zs_ia (v := (S.1 78 ((((nI 8) + l1)).toNatClampNeg))) rfl rfl rfl rfl (zs_ias (S' := ((z_w1 (z_w1 (z_w1 (z_w1 (z_w1 (z_w1 S.1 74 ((l1).toNatClampNeg) (S.1 74 ((((nI 8) + l1)).toNatClampNeg))) 75 ((l1).toNatClampNeg) (S.1 75 ((((nI 8) + l1)).toNatClampNeg))) 76 ((l1).toNatClampNeg) (S.1 76 ((((nI 8) + l1)).toNatClampNeg))) 81 ((l1).toNatClampNeg) (vp_nar .boolean (S.1 81 ((((nI 8) + l1)).toNatClampNeg)))) 77 ((l1).toNatClampNeg) (S.1 77 ((((nI 8) + l1)).toNatClampNeg))) 78 ((l1).toNatClampNeg) (S.1 78 ((((nI 8) + l1)).toNatClampNeg))), S.2)) rfl rfl rfl (zs_iinc (v := nI 1) (L' := [some (.ref 70), some (.int (l1 + (nI 1)))]) rfl rfl rfl rfl (zs_goto rfl))))))))))))))))))))))))))))))))))))))))))))))))))))))))))))))))
set_option maxRecDepth 100000 in
theorem zq_138_164 (d n z : Nat)  (d1 : Option Value) (S : z_St) : z_R138 d (n + 1) 164 z [some (.ref 70), d1] [] S = z_R138 d n 166 z [some (.ref 70), some (.int (nI 0))] [] S := by
  refine zs_run (L' := [some (.ref 70), none]) rfl rfl ?_
  exact zs_iconst (v := nI 0) rfl (zs_istore_n (L' := [some (.ref 70), some (.int (nI 0))]) rfl rfl (zs_nil rfl))
set_option maxRecDepth 100000 in
theorem zq_138_166 (d n z : Nat) (l1 : Int32) (S : z_St) : z_R138 d (n + 1) 166 z [some (.ref 70), some (.int l1)] [] S = if (S.1 70 27) ≤ l1 then (z_R138 d n 196 z [some (.ref 70), some (.int l1)] [] S) else (cond (z_ix ((nI 700) + l1) 1400) (cond (z_ix l1 1400) (z_R138 d n 166 z [some (.ref 70), some (.int (l1 + (nI 1)))] [] ((z_w1 S.1 79 ((l1).toNatClampNeg) (S.1 79 ((((nI 700) + l1)).toNatClampNeg))), S.2)) none) none) := by
  refine zs_run (L' := [some (.ref 70), some (.int l1)]) rfl rfl ?_
  exact zs_iload_n rfl (zs_aload_n rfl (zs_get0 (x := (S.1 70 27)) rfl rfl (zs_ic_ge rfl (zs_aload_n rfl (zs_get2 (b := 79) rfl rfl (zs_iload_n rfl (zs_aload_n rfl (zs_get2 (b := 79) rfl rfl (zs_sipush (v := nI 700) rfl (zs_iload_n rfl (zs_iadd (zs_ia (v := (S.1 79 ((((nI 700) + l1)).toNatClampNeg))) rfl rfl rfl rfl (zs_ias (S' := ((z_w1 S.1 79 ((l1).toNatClampNeg) (S.1 79 ((((nI 700) + l1)).toNatClampNeg))), S.2)) rfl rfl rfl (zs_iinc (v := nI 1) (L' := [some (.ref 70), some (.int (l1 + (nI 1)))]) rfl rfl rfl rfl (zs_goto rfl)))))))))))))))
set_option maxRecDepth 100000 in
theorem zq_138_196 (d n z : Nat)  (d1 : Option Value) (S : z_St) : z_R138 d (n + 1) 196 z [some (.ref 70), d1] [] S = z_R138 d n 228 z [some (.ref 70), some (.int (nI 0))] [] ((z_w1 (z_w1 (z_w1 (z_w1 (z_w1 (z_w1 S.1 70 28 (nI 0)) 70 29 (nI 0)) 70 44 (nI 0)) 70 57 (nI 0)) 70 63 (-nI 1)) 70 67 (nI 0)), S.2) := by
  refine zs_run (L' := [some (.ref 70), none]) rfl rfl ?_
  exact zs_aload_n rfl (zs_iconst (v := nI 0) rfl (zs_put (S' := ((z_w1 S.1 70 28 (nI 0)), S.2)) rfl rfl (zs_aload_n rfl (zs_iconst (v := nI 0) rfl (zs_put (S' := ((z_w1 (z_w1 S.1 70 28 (nI 0)) 70 29 (nI 0)), S.2)) rfl rfl (zs_aload_n rfl (zs_iconst (v := nI 0) rfl (zs_put (S' := ((z_w1 (z_w1 (z_w1 S.1 70 28 (nI 0)) 70 29 (nI 0)) 70 44 (nI 0)), S.2)) rfl rfl (zs_aload_n rfl (zs_iconst (v := nI 0) rfl (zs_put (S' := ((z_w1 (z_w1 (z_w1 (z_w1 S.1 70 28 (nI 0)) 70 29 (nI 0)) 70 44 (nI 0)) 70 57 (nI 0)), S.2)) rfl rfl (zs_aload_n rfl (zs_iconst (v := (-nI 1)) rfl (zs_put (S' := ((z_w1 (z_w1 (z_w1 (z_w1 (z_w1 S.1 70 28 (nI 0)) 70 29 (nI 0)) 70 44 (nI 0)) 70 57 (nI 0)) 70 63 (-nI 1)), S.2)) rfl rfl (zs_aload_n rfl (zs_iconst (v := nI 0) rfl (zs_put (S' := ((z_w1 (z_w1 (z_w1 (z_w1 (z_w1 (z_w1 S.1 70 28 (nI 0)) 70 29 (nI 0)) 70 44 (nI 0)) 70 57 (nI 0)) 70 63 (-nI 1)) 70 67 (nI 0)), S.2)) (by decide +kernel) rfl (zs_iconst (v := nI 0) rfl (zs_istore_n (L' := [some (.ref 70), some (.int (nI 0))]) rfl rfl (zs_nil rfl))))))))))))))))))))
set_option maxRecDepth 100000 in
theorem zq_138_228 (d n z : Nat) (l1 : Int32) (S : z_St) : z_R138 d (n + 1) 228 z [some (.ref 70), some (.int l1)] [] S = if (nI 10) ≤ l1 then (z_R138 d n 247 z [some (.ref 70), some (.int l1)] [] S) else (cond (z_ix l1 10) (z_R138 d n 228 z [some (.ref 70), some (.int (l1 + (nI 1)))] [] ((z_w1 S.1 86 ((l1).toNatClampNeg) (nI 0)), S.2)) none) := by
  refine zs_run (L' := [some (.ref 70), some (.int l1)]) rfl rfl ?_
  exact zs_iload_n rfl (zs_bipush (v := nI 10) rfl (zs_ic_ge rfl (zs_aload_n rfl (zs_get2 (b := 86) rfl rfl (zs_iload_n rfl (zs_iconst (v := nI 0) rfl (zs_ias (S' := ((z_w1 S.1 86 ((l1).toNatClampNeg) (nI 0)), S.2)) rfl rfl rfl (zs_iinc (v := nI 1) (L' := [some (.ref 70), some (.int (l1 + (nI 1)))]) rfl rfl rfl rfl (zs_goto rfl)))))))))
set_option maxRecDepth 100000 in
theorem zq_138_247 (d n z : Nat)  (d1 : Option Value) (S : z_St) : z_R138 d (n + 1) 247 z [some (.ref 70), d1] [] S = z_R138 d n 249 z [some (.ref 70), some (.int (nI 0))] [] S := by
  refine zs_run (L' := [some (.ref 70), none]) rfl rfl ?_
  exact zs_iconst (v := nI 0) rfl (zs_istore_n (L' := [some (.ref 70), some (.int (nI 0))]) rfl rfl (zs_nil rfl))
set_option maxRecDepth 100000 in
theorem zq_138_249 (d n z : Nat) (l1 : Int32) (S : z_St) : z_R138 d (n + 1) 249 z [some (.ref 70), some (.int l1)] [] S = if (nI 8) ≤ l1 then (z_R138 d n 268 z [some (.ref 70), some (.int l1)] [] S) else (cond (z_ix l1 8) (z_R138 d n 249 z [some (.ref 70), some (.int (l1 + (nI 1)))] [] ((z_w1 S.1 87 ((l1).toNatClampNeg) (nI 0)), S.2)) none) := by
  refine zs_run (L' := [some (.ref 70), some (.int l1)]) rfl rfl ?_
  exact zs_iload_n rfl (zs_bipush (v := nI 8) rfl (zs_ic_ge rfl (zs_aload_n rfl (zs_get2 (b := 87) rfl rfl (zs_iload_n rfl (zs_iconst (v := nI 0) rfl (zs_ias (S' := ((z_w1 S.1 87 ((l1).toNatClampNeg) (nI 0)), S.2)) rfl rfl rfl (zs_iinc (v := nI 1) (L' := [some (.ref 70), some (.int (l1 + (nI 1)))]) rfl rfl rfl rfl (zs_goto rfl)))))))))
set_option maxRecDepth 100000 in
theorem zq_138_268 (d n z : Nat)  (d1 : Option Value) (S : z_St) : z_R138 d (n + 1) 268 z [some (.ref 70), d1] [] S = z_R138 d n 270 z [some (.ref 70), some (.int (nI 0))] [] S := by
  refine zs_run (L' := [some (.ref 70), none]) rfl rfl ?_
  exact zs_iconst (v := nI 0) rfl (zs_istore_n (L' := [some (.ref 70), some (.int (nI 0))]) rfl rfl (zs_nil rfl))
set_option maxRecDepth 100000 in
theorem zq_138_270 (d n z : Nat) (l1 : Int32) (S : z_St) : z_R138 d (n + 1) 270 z [some (.ref 70), some (.int l1)] [] S = if (nI 80) ≤ l1 then (z_R138 d n 303 z [some (.ref 70), some (.int l1)] [] S) else (cond (z_ix l1 80) (cond (z_ix l1 80) (cond (z_ix l1 80) (z_R138 d n 270 z [some (.ref 70), some (.int (l1 + (nI 1)))] [] ((z_w1 (z_w1 (z_w1 S.1 83 ((l1).toNatClampNeg) (nI 0)) 84 ((l1).toNatClampNeg) (nI 0)) 85 ((l1).toNatClampNeg) (-nI 1)), S.2)) none) none) none) := by
  refine zs_run (L' := [some (.ref 70), some (.int l1)]) rfl rfl ?_
  exact zs_iload_n rfl (zs_bipush (v := nI 80) rfl (zs_ic_ge rfl (zs_aload_n rfl (zs_get2 (b := 83) rfl rfl (zs_iload_n rfl (zs_iconst (v := nI 0) rfl (zs_ias (S' := ((z_w1 S.1 83 ((l1).toNatClampNeg) (nI 0)), S.2)) rfl rfl rfl (zs_aload_n rfl (zs_get2 (b := 84) rfl rfl (zs_iload_n rfl (zs_iconst (v := nI 0) rfl (zs_ias (S' := ((z_w1 (z_w1 S.1 83 ((l1).toNatClampNeg) (nI 0)) 84 ((l1).toNatClampNeg) (nI 0)), S.2)) rfl rfl rfl (zs_aload_n rfl (zs_get2 (b := 85) rfl rfl (zs_iload_n rfl (zs_iconst (v := (-nI 1)) rfl (zs_ias (S' := ((z_w1 (z_w1 (z_w1 S.1 83 ((l1).toNatClampNeg) (nI 0)) 84 ((l1).toNatClampNeg) (nI 0)) 85 ((l1).toNatClampNeg) (-nI 1)), S.2)) rfl rfl rfl (zs_iinc (v := nI 1) (L' := [some (.ref 70), some (.int (l1 + (nI 1)))]) rfl rfl rfl rfl (zs_goto rfl)))))))))))))))))))
set_option maxRecDepth 100000 in
theorem zq_138_303 (d n z : Nat)  (d1 : Option Value) (S : z_St) : z_R138 d (n + 1) 303 z [some (.ref 70), d1] [] S = z_R138 d n 305 z [some (.ref 70), some (.int (nI 0))] [] S := by
  refine zs_run (L' := [some (.ref 70), none]) rfl rfl ?_
  exact zs_iconst (v := nI 0) rfl (zs_istore_n (L' := [some (.ref 70), some (.int (nI 0))]) rfl rfl (zs_nil rfl))
set_option maxRecDepth 100000 in
theorem zq_138_305 (d n z : Nat) (l1 : Int32) (S : z_St) : z_R138 d (n + 1) 305 z [some (.ref 70), some (.int l1)] [] S = if (nI 32080) ≤ l1 then (z_R138 d n 325 z [some (.ref 70), some (.int l1)] [] S) else (cond (z_ix l1 32080) (z_R138 d n 305 z [some (.ref 70), some (.int (l1 + (nI 1)))] [] ((z_w1 S.1 88 ((l1).toNatClampNeg) (vp_nar .boolean (nI 0))), S.2)) none) := by
  refine zs_run (L' := [some (.ref 70), some (.int l1)]) rfl rfl ?_
  exact zs_iload_n rfl (zs_sipush (v := nI 32080) rfl (zs_ic_ge rfl (zs_aload_n rfl (zs_get2 (b := 88) rfl rfl (zs_iload_n rfl (zs_iconst (v := nI 0) rfl (zs_bas3 (S' := ((z_w1 S.1 88 ((l1).toNatClampNeg) (vp_nar .boolean (nI 0))), S.2)) rfl rfl rfl (zs_iinc (v := nI 1) (L' := [some (.ref 70), some (.int (l1 + (nI 1)))]) rfl rfl rfl rfl (zs_goto rfl)))))))))
set_option maxRecDepth 100000 in
theorem zq_138_325 (d n z : Nat)  (d1 : Option Value) (S : z_St) : z_R138 d (n + 1) 325 z [some (.ref 70), d1] [] S = z_R138 d n 327 z [some (.ref 70), some (.int (nI 0))] [] S := by
  refine zs_run (L' := [some (.ref 70), none]) rfl rfl ?_
  exact zs_iconst (v := nI 0) rfl (zs_istore_n (L' := [some (.ref 70), some (.int (nI 0))]) rfl rfl (zs_nil rfl))
set_option maxRecDepth 100000 in
theorem zq_138_327 (d n z : Nat) (l1 : Int32) (S : z_St) : z_R138 d (n + 1) 327 z [some (.ref 70), some (.int l1)] [] S = if (nI 60) ≤ l1 then (z_R138 d n 346 z [some (.ref 70), some (.int l1)] [] S) else (cond (z_ix l1 60) (z_R138 d n 327 z [some (.ref 70), some (.int (l1 + (nI 1)))] [] ((z_w1 S.1 112 ((l1).toNatClampNeg) (nI 0)), S.2)) none) := by
  refine zs_run (L' := [some (.ref 70), some (.int l1)]) rfl rfl ?_
  exact zs_iload_n rfl (zs_bipush (v := nI 60) rfl (zs_ic_ge rfl (zs_aload_n rfl (zs_get2 (b := 112) rfl rfl (zs_iload_n rfl (zs_iconst (v := nI 0) rfl (zs_ias (S' := ((z_w1 S.1 112 ((l1).toNatClampNeg) (nI 0)), S.2)) rfl rfl rfl (zs_iinc (v := nI 1) (L' := [some (.ref 70), some (.int (l1 + (nI 1)))]) rfl rfl rfl rfl (zs_goto rfl)))))))))
set_option maxRecDepth 100000 in
theorem zq_138_346 (d n z : Nat)  (d0 d1 : Option Value) (S : z_St) : z_R138 d (n + 1) 346 z [d0, d1] [] S = some (.inl none, S) := by
  refine zs_run (L' := [none, none]) rfl rfl ?_
  exact zs_ret rfl
/-- SlipRoomModel.fault()I -/
noncomputable def z_R139 (d : Nat) : Nat → z_K := z_run false (some .int) [] (z_ew d) z_b139
theorem ze_139 (d : Nat) (as : List Value) (S : z_St) (h : Nat.ble (z_sl as).length 1 = true) : z_ew (d + 1) 139 as S = z_R139 d z_fuel 0 0 (z_in 1 as) [] S := zs_ew h
set_option maxRecDepth 100000 in
theorem zq_139_0 (d n z : Nat)  (S : z_St) : z_R139 d (n + 1) 0 z [some (.ref 70)] [] S = some (.inl (some (.int (S.1 70 26))), ((z_w1 S.1 70 1 (nI 0)), S.2)) := by
  refine zs_run (L' := [some (.ref 70)]) rfl rfl ?_
  exact zs_aload_n rfl (zs_iconst (v := nI 0) rfl (zs_put (S' := ((z_w1 S.1 70 1 (nI 0)), S.2)) rfl rfl (zs_aload_n rfl (zs_get0 (x := (S.1 70 26)) rfl rfl (zs_iret rfl)))))
/-- SlipRoomModel.count(I)I -/
noncomputable def z_R140 (d : Nat) : Nat → z_K := z_run false (some .int) [] (z_ew d) z_b140
theorem ze_140 (d : Nat) (as : List Value) (S : z_St) (h : Nat.ble (z_sl as).length 2 = true) : z_ew (d + 1) 140 as S = z_R140 d z_fuel 0 0 (z_in 2 as) [] S := zs_ew h
set_option maxRecDepth 100000 in
theorem zq_140_0 (d n z : Nat) (l1 : Int32) (S : z_St) : z_R140 d (n + 1) 0 z [some (.ref 70), some (.int l1)] [] S = z_cli (z_ew d 112 [.int l1, .int (nI 7), .int (nI 11)] ((z_w1 S.1 70 1 (nI 0)), S.2)) (fun x2 S1 => if x2 = 0 then (z_R140 d n 26 z [some (.ref 70), some (.int l1)] [] S1) else (cond (z_ix (l1 - (nI 7)) 5) (some (.inl (some (.int (S1.1 80 (((l1 - (nI 7))).toNatClampNeg)))), S1)) none)) (z_hnd []) := by
  refine zs_run (L' := [some (.ref 70), some (.int l1)]) rfl rfl ?_
  exact zs_aload_n rfl (zs_iconst (v := nI 0) rfl (zs_put (S' := ((z_w1 S.1 70 1 (nI 0)), S.2)) rfl rfl (zs_iload_n rfl (zs_bipush (v := nI 7) rfl (zs_bipush (v := nI 11) rfl (zs_Si rfl rfl (Or.inl (Or.inl rfl)) (fun x2 S1 => zs_if_eq rfl (zs_aload_n rfl (zs_get2 (b := 80) rfl rfl (zs_iload_n rfl (zs_bipush (v := nI 7) rfl (zs_isub (zs_ia (v := (S1.1 80 (((l1 - (nI 7))).toNatClampNeg))) rfl rfl rfl rfl (zs_iret rfl)))))))) (fun _ _ => rfl)))))))
set_option maxRecDepth 100000 in
theorem zq_140_26 (d n z : Nat) (l1 : Int32) (S : z_St) : z_R140 d (n + 1) 26 z [some (.ref 70), some (.int l1)] [] S = z_sw l1 76 0 6 #[41, 46, 51, 56, 61, 66, 71] (fun o => z_R140 d n (z_tg 27 o) z [some (.ref 70), some (.int l1)] [] S) := by
  refine zs_run (L' := [some (.ref 70), some (.int l1)]) rfl rfl ?_
  exact zs_iload_n rfl (zs_tsw (fun o => rfl))
set_option maxRecDepth 100000 in
theorem zq_140_68 (d n z : Nat)  (d1 : Option Value) (S : z_St) : z_R140 d (n + 1) 68 z [some (.ref 70), d1] [] S = some (.inl (some (.int (S.1 70 2))), S) := by
  refine zs_run (L' := [some (.ref 70), none]) rfl rfl ?_
  exact zs_aload_n rfl (zs_get0 (x := (S.1 70 2)) rfl rfl (zs_iret rfl))
set_option maxRecDepth 100000 in
theorem zq_140_73 (d n z : Nat)  (d1 : Option Value) (S : z_St) : z_R140 d (n + 1) 73 z [some (.ref 70), d1] [] S = some (.inl (some (.int (S.1 70 3))), S) := by
  refine zs_run (L' := [some (.ref 70), none]) rfl rfl ?_
  exact zs_aload_n rfl (zs_get0 (x := (S.1 70 3)) rfl rfl (zs_iret rfl))
set_option maxRecDepth 100000 in
theorem zq_140_78 (d n z : Nat)  (d1 : Option Value) (S : z_St) : z_R140 d (n + 1) 78 z [some (.ref 70), d1] [] S = some (.inl (some (.int (S.1 70 28))), S) := by
  refine zs_run (L' := [some (.ref 70), none]) rfl rfl ?_
  exact zs_aload_n rfl (zs_get0 (x := (S.1 70 28)) rfl rfl (zs_iret rfl))
set_option maxRecDepth 100000 in
theorem zq_140_83 (d n z : Nat)  (d1 : Option Value) (S : z_St) : z_R140 d (n + 1) 83 z [some (.ref 70), d1] [] S = some (.inl (some (.int (S.1 70 44))), S) := by
  refine zs_run (L' := [some (.ref 70), none]) rfl rfl ?_
  exact zs_aload_n rfl (zs_get0 (x := (S.1 70 44)) rfl rfl (zs_iret rfl))
set_option maxRecDepth 100000 in
theorem zq_140_88 (d n z : Nat)  (d1 : Option Value) (S : z_St) : z_R140 d (n + 1) 88 z [some (.ref 70), d1] [] S = some (.inl (some (.int (S.1 70 57))), S) := by
  refine zs_run (L' := [some (.ref 70), none]) rfl rfl ?_
  exact zs_aload_n rfl (zs_get0 (x := (S.1 70 57)) rfl rfl (zs_iret rfl))
set_option maxRecDepth 100000 in
theorem zq_140_93 (d n z : Nat)  (d1 : Option Value) (S : z_St) : z_R140 d (n + 1) 93 z [some (.ref 70), d1] [] S = some (.inl (some (.int (S.1 70 17))), S) := by
  refine zs_run (L' := [some (.ref 70), none]) rfl rfl ?_
  exact zs_aload_n rfl (zs_get0 (x := (S.1 70 17)) rfl rfl (zs_iret rfl))
set_option maxRecDepth 100000 in
theorem zq_140_98 (d n z : Nat)  (d1 : Option Value) (S : z_St) : z_R140 d (n + 1) 98 z [some (.ref 70), d1] [] S = some (.inl (some (.int (S.1 70 29))), S) := by
  refine zs_run (L' := [some (.ref 70), none]) rfl rfl ?_
  exact zs_aload_n rfl (zs_get0 (x := (S.1 70 29)) rfl rfl (zs_iret rfl))
set_option maxRecDepth 100000 in
theorem zq_140_103 (d n z : Nat)  (d1 : Option Value) (S : z_St) : z_R140 d (n + 1) 103 z [some (.ref 70), d1] [] S = z_cli (z_ew d 111 [.ref 70, .int (nI 1)] S) (fun x2 S1 => some (.inl (some (.int x2)), S1)) (z_hnd []) := by
  refine zs_run (L' := [some (.ref 70), none]) rfl rfl ?_
  exact zs_aload_n rfl (zs_iconst (v := nI 1) rfl (zs_Vi rfl rfl (Or.inr ⟨Or.inl rfl, _, _, rfl, rfl⟩) (fun x2 S1 => zs_iret rfl) (fun _ _ => rfl)))
/-- SlipRoomModel.pair(II)I -/
noncomputable def z_R141 (d : Nat) : Nat → z_K := z_run false (some .int) [] (z_ew d) z_b141
theorem ze_141 (d : Nat) (as : List Value) (S : z_St) (h : Nat.ble (z_sl as).length 2 = true) : z_ew (d + 1) 141 as S = z_R141 d z_fuel 0 0 (z_in 2 as) [] S := zs_ew h
set_option maxRecDepth 100000 in
theorem zq_141_0 (d n z : Nat) (l0 : Int32) (l1 : Int32) (S : z_St) : z_R141 d (n + 1) 0 z [some (.int l0), some (.int l1)] [] S = some (.inl (some (.int (((nI 8) * l1) + l0))), S) := by
  refine zs_run (L' := [some (.int l0), some (.int l1)]) rfl rfl ?_
  exact zs_bipush (v := nI 8) rfl (zs_iload_n rfl (zs_imul (zs_iload_n rfl (zs_iadd (zs_iret rfl)))))
/-- SlipRoomModel.hasRead(III)Z -/
noncomputable def z_R142 (d : Nat) : Nat → z_K := z_run false (some .boolean) [] (z_ew d) z_b142
theorem ze_142 (d : Nat) (as : List Value) (S : z_St) (h : Nat.ble (z_sl as).length 4 = true) : z_ew (d + 1) 142 as S = z_R142 d z_fuel 0 0 (z_in 4 as) [] S := zs_ew h
set_option maxRecDepth 100000 in
theorem zq_142_0 (d n z : Nat) (l1 : Int32) (l2 : Int32) (l3 : Int32) (S : z_St) : z_R142 d (n + 1) 0 z [some (.ref 70), some (.int l1), some (.int l2), some (.int l3)] [] S = z_cli (z_ew d 141 [.int l1, .int l2] S) (fun x2 S1 => cond (z_ix (((nI 401) * x2) + l3) 32080) (cond (z_rb (some .boolean) (S1.1 88 (((((nI 401) * x2) + l3)).toNatClampNeg))) (some (.inl (some (.int (S1.1 88 (((((nI 401) * x2) + l3)).toNatClampNeg)))), S1)) none) none) (z_hnd []) := by
  refine zs_run (L' := [some (.ref 70), some (.int l1), some (.int l2), some (.int l3)]) rfl rfl ?_
  exact zs_aload_n rfl (zs_get2 (b := 88) rfl rfl (zs_sipush (v := nI 401) rfl (zs_iload_n rfl (zs_iload_n rfl (zs_Si rfl rfl (Or.inl (Or.inl rfl)) (fun x2 S1 => zs_imul (zs_iload_n rfl (zs_iadd (zs_ba (v := (S1.1 88 (((((nI 401) * x2) + l3)).toNatClampNeg))) rfl rfl rfl (zs_iretc))))) (fun _ _ => rfl))))))
/-- SlipRoomModel.unopened(I)I -/
noncomputable def z_R143 (d : Nat) : Nat → z_K := z_run false (some .int) [] (z_ew d) z_b143
theorem ze_143 (d : Nat) (as : List Value) (S : z_St) (h : Nat.ble (z_sl as).length 6 = true) : z_ew (d + 1) 143 as S = z_R143 d z_fuel 0 0 (z_in 6 as) [] S := zs_ew h
set_option maxRecDepth 100000 in
theorem zq_143_0 (d n z : Nat) (l1 : Int32) (d2 d3 d4 d5 : Option Value) (S : z_St) : z_R143 d (n + 1) 0 z [some (.ref 70), some (.int l1), d2, d3, d4, d5] [] S = z_R143 d n 4 z [some (.ref 70), some (.int l1), some (.int (nI 0)), some (.int (nI 1)), none, none] [] S := by
  refine zs_run (L' := [some (.ref 70), some (.int l1), none, none, none, none]) rfl rfl ?_
  exact zs_iconst (v := nI 0) rfl (zs_istore_n (L' := [some (.ref 70), some (.int l1), some (.int (nI 0)), none, none, none]) rfl rfl (zs_iconst (v := nI 1) rfl (zs_istore_n (L' := [some (.ref 70), some (.int l1), some (.int (nI 0)), some (.int (nI 1)), none, none]) rfl rfl (zs_nil rfl))))
set_option maxRecDepth 100000 in
theorem zq_143_4 (d n z : Nat) (l1 : Int32) (l2 : Int32) (l3 : Int32) (d4 d5 : Option Value) (S : z_St) : z_R143 d (n + 1) 4 z [some (.ref 70), some (.int l1), some (.int l2), some (.int l3), d4, d5] [] S = cond (z_ix l1 20) (if (S.1 72 ((l1).toNatClampNeg)) < l3 then (z_R143 d n 67 z [some (.ref 70), some (.int l1), some (.int l2), some (.int l3), none, none] [] S) else (z_R143 d n 20 z [some (.ref 70), some (.int l1), some (.int l2), some (.int l3), some (.int (nI 0)), some (.int (nI 0))] [] S)) none := by
  refine zs_run (L' := [some (.ref 70), some (.int l1), some (.int l2), some (.int l3), none, none]) rfl rfl ?_
  exact zs_iload_n rfl (zs_aload_n rfl (zs_get2 (b := 72) rfl rfl (zs_iload_n rfl (zs_ia (v := (S.1 72 ((l1).toNatClampNeg))) rfl rfl rfl rfl (zs_ic_gt rfl (zs_iconst (v := nI 0) rfl (zs_istore (L' := [some (.ref 70), some (.int l1), some (.int l2), some (.int l3), some (.int (nI 0)), none]) rfl rfl (zs_iconst (v := nI 0) rfl (zs_istore (L' := [some (.ref 70), some (.int l1), some (.int l2), some (.int l3), some (.int (nI 0)), some (.int (nI 0))]) rfl rfl (zs_nil rfl))))))))))
set_option maxRecDepth 100000 in
theorem zq_143_20 (d n z : Nat) (l1 : Int32) (l2 : Int32) (l3 : Int32) (l4 : Int32) (l5 : Int32) (S : z_St) : z_R143 d (n + 1) 20 z [some (.ref 70), some (.int l1), some (.int l2), some (.int l3), some (.int l4), some (.int l5)] [] S = if (S.1 70 3) ≤ l5 then (z_R143 d n 48 z [some (.ref 70), some (.int l1), some (.int l2), some (.int l3), some (.int l4), some (.int l5)] [] S) else (z_cli (z_ew d 142 [.ref 70, .int l5, .int l1, .int l3] S) (fun x2 S1 => z_R143 d n 20 z [some (.ref 70), some (.int l1), some (.int l2), some (.int l3), some (.int (l4 ||| x2)), some (.int (l5 + (nI 1)))] [] S1) (z_hnd [])) := by
  refine zs_run (L' := [some (.ref 70), some (.int l1), some (.int l2), some (.int l3), some (.int l4), some (.int l5)]) rfl rfl ?_
  exact zs_iload rfl (zs_aload_n rfl (zs_get0 (x := (S.1 70 3)) rfl rfl (zs_ic_ge rfl (zs_iload rfl (zs_aload_n rfl (zs_iload rfl (zs_iload_n rfl (zs_iload_n rfl (zs_Vi rfl rfl (Or.inr ⟨Or.inl rfl, _, _, rfl, rfl⟩) (fun x2 S1 => zs_ior (zs_istore (L' := [some (.ref 70), some (.int l1), some (.int l2), some (.int l3), some (.int (l4 ||| x2)), some (.int l5)]) rfl rfl (zs_iinc (v := nI 1) (L' := [some (.ref 70), some (.int l1), some (.int l2), some (.int l3), some (.int (l4 ||| x2)), some (.int (l5 + (nI 1)))]) rfl rfl rfl rfl (zs_goto rfl)))) (fun _ _ => rfl))))))))))
set_option maxRecDepth 100000 in
theorem zq_143_48 (d n z : Nat) (l1 : Int32) (l2 : Int32) (l3 : Int32) (l4 : Int32) (d5 : Option Value) (S : z_St) : z_R143 d (n + 1) 48 z [some (.ref 70), some (.int l1), some (.int l2), some (.int l3), some (.int l4), d5] [] S = if l4 = 0 then (z_R143 d n 58 z [some (.ref 70), some (.int l1), some (.int l2), some (.int l3), some (.int l4), none] [.int l2] S) else (z_R143 d n 59 z [some (.ref 70), some (.int l1), some (.int l2), some (.int l3), some (.int l4), none] [.int (nI 0), .int l2] S) := by
  refine zs_run (L' := [some (.ref 70), some (.int l1), some (.int l2), some (.int l3), some (.int l4), none]) rfl rfl ?_
  exact zs_iload_n rfl (zs_iload rfl (zs_if_eq rfl (zs_iconst (v := nI 0) rfl (zs_goto rfl))))
set_option maxRecDepth 100000 in
theorem zq_143_58 (d n z : Nat) (l1 : Int32) (l3 : Int32) (t0 : Int32) (d2 d4 d5 : Option Value) (S : z_St) : z_R143 d (n + 1) 58 z [some (.ref 70), some (.int l1), d2, some (.int l3), d4, d5] [.int t0] S = z_R143 d n 59 z [some (.ref 70), some (.int l1), none, some (.int l3), none, none] [.int (nI 1), .int t0] S := by
  refine zs_run (L' := [some (.ref 70), some (.int l1), none, some (.int l3), none, none]) rfl rfl ?_
  exact zs_iconst (v := nI 1) rfl (zs_nil rfl)
set_option maxRecDepth 100000 in
theorem zq_143_59 (d n z : Nat) (l1 : Int32) (l3 : Int32) (t0 : Int32) (t1 : Int32) (d2 d4 d5 : Option Value) (S : z_St) : z_R143 d (n + 1) 59 z [some (.ref 70), some (.int l1), d2, some (.int l3), d4, d5] [.int t0, .int t1] S = z_R143 d n 4 z [some (.ref 70), some (.int l1), some (.int (t1 + t0)), some (.int (l3 + (nI 1))), none, none] [] S := by
  refine zs_run (L' := [some (.ref 70), some (.int l1), none, some (.int l3), none, none]) rfl rfl ?_
  exact zs_iadd (zs_istore_n (L' := [some (.ref 70), some (.int l1), some (.int (t1 + t0)), some (.int l3), none, none]) rfl rfl (zs_iinc (v := nI 1) (L' := [some (.ref 70), some (.int l1), some (.int (t1 + t0)), some (.int (l3 + (nI 1))), none, none]) rfl rfl rfl rfl (zs_goto rfl)))
set_option maxRecDepth 100000 in
theorem zq_143_67 (d n z : Nat) (l2 : Int32) (d0 d1 d3 d4 d5 : Option Value) (S : z_St) : z_R143 d (n + 1) 67 z [d0, d1, some (.int l2), d3, d4, d5] [] S = some (.inl (some (.int l2)), S) := by
  refine zs_run (L' := [none, none, some (.int l2), none, none, none]) rfl rfl ?_
  exact zs_iload_n rfl (zs_iret rfl)
/-- SlipRoomModel.slipsIn(I)I -/
noncomputable def z_R144 (d : Nat) : Nat → z_K := z_run false (some .int) [] (z_ew d) z_b144
theorem ze_144 (d : Nat) (as : List Value) (S : z_St) (h : Nat.ble (z_sl as).length 4 = true) : z_ew (d + 1) 144 as S = z_R144 d z_fuel 0 0 (z_in 4 as) [] S := zs_ew h
set_option maxRecDepth 100000 in
theorem zq_144_0 (d n z : Nat) (l1 : Int32) (d2 d3 : Option Value) (S : z_St) : z_R144 d (n + 1) 0 z [some (.ref 70), some (.int l1), d2, d3] [] S = z_R144 d n 4 z [some (.ref 70), some (.int l1), some (.int (nI 0)), some (.int (nI 0))] [] S := by
  refine zs_run (L' := [some (.ref 70), some (.int l1), none, none]) rfl rfl ?_
  exact zs_iconst (v := nI 0) rfl (zs_istore_n (L' := [some (.ref 70), some (.int l1), some (.int (nI 0)), none]) rfl rfl (zs_iconst (v := nI 0) rfl (zs_istore_n (L' := [some (.ref 70), some (.int l1), some (.int (nI 0)), some (.int (nI 0))]) rfl rfl (zs_nil rfl))))
set_option maxRecDepth 100000 in
theorem zq_144_4 (d n z : Nat) (l1 : Int32) (l2 : Int32) (l3 : Int32) (S : z_St) : z_R144 d (n + 1) 4 z [some (.ref 70), some (.int l1), some (.int l2), some (.int l3)] [] S = if (S.1 70 3) ≤ l3 then (z_R144 d n 39 z [some (.ref 70), some (.int l1), some (.int l2), some (.int l3)] [] S) else (z_cli (z_ew d 141 [.int l3, .int l1] S) (fun x2 S1 => cond (z_ix x2 80) (if (S1.1 83 ((x2).toNatClampNeg)) ≤ 0 then (z_R144 d n 30 z [some (.ref 70), some (.int l1), some (.int l2), some (.int l3)] [.int l2] S1) else (z_R144 d n 31 z [some (.ref 70), some (.int l1), some (.int l2), some (.int l3)] [.int (nI 1), .int l2] S1)) none) (z_hnd [])) := by
  refine zs_run (L' := [some (.ref 70), some (.int l1), some (.int l2), some (.int l3)]) rfl rfl ?_
  exact zs_iload_n rfl (zs_aload_n rfl (zs_get0 (x := (S.1 70 3)) rfl rfl (zs_ic_ge rfl (zs_iload_n rfl (zs_aload_n rfl (zs_get2 (b := 83) rfl rfl (zs_iload_n rfl (zs_iload_n rfl (zs_Si rfl rfl (Or.inl (Or.inl rfl)) (fun x2 S1 => zs_ia (v := (S1.1 83 ((x2).toNatClampNeg))) rfl rfl rfl rfl (zs_if_le rfl (zs_iconst (v := nI 1) rfl (zs_goto rfl)))) (fun _ _ => rfl))))))))))
set_option maxRecDepth 100000 in
theorem zq_144_30 (d n z : Nat) (l1 : Int32) (l3 : Int32) (t0 : Int32) (d2 : Option Value) (S : z_St) : z_R144 d (n + 1) 30 z [some (.ref 70), some (.int l1), d2, some (.int l3)] [.int t0] S = z_R144 d n 31 z [some (.ref 70), some (.int l1), none, some (.int l3)] [.int (nI 0), .int t0] S := by
  refine zs_run (L' := [some (.ref 70), some (.int l1), none, some (.int l3)]) rfl rfl ?_
  exact zs_iconst (v := nI 0) rfl (zs_nil rfl)
set_option maxRecDepth 100000 in
theorem zq_144_31 (d n z : Nat) (l1 : Int32) (l3 : Int32) (t0 : Int32) (t1 : Int32) (d2 : Option Value) (S : z_St) : z_R144 d (n + 1) 31 z [some (.ref 70), some (.int l1), d2, some (.int l3)] [.int t0, .int t1] S = z_R144 d n 4 z [some (.ref 70), some (.int l1), some (.int (t1 + t0)), some (.int (l3 + (nI 1)))] [] S := by
  refine zs_run (L' := [some (.ref 70), some (.int l1), none, some (.int l3)]) rfl rfl ?_
  exact zs_iadd (zs_istore_n (L' := [some (.ref 70), some (.int l1), some (.int (t1 + t0)), some (.int l3)]) rfl rfl (zs_iinc (v := nI 1) (L' := [some (.ref 70), some (.int l1), some (.int (t1 + t0)), some (.int (l3 + (nI 1)))]) rfl rfl rfl rfl (zs_goto rfl)))
set_option maxRecDepth 100000 in
theorem zq_144_39 (d n z : Nat) (l2 : Int32) (d0 d1 d3 : Option Value) (S : z_St) : z_R144 d (n + 1) 39 z [d0, d1, some (.int l2), d3] [] S = some (.inl (some (.int l2)), S) := by
  refine zs_run (L' := [none, none, some (.int l2), none]) rfl rfl ?_
  exact zs_iload_n rfl (zs_iret rfl)
/-- SlipRoomModel.book(II)I -/
noncomputable def z_R145 (d : Nat) : Nat → z_K := z_run false (some .int) [] (z_ew d) z_b145
theorem ze_145 (d : Nat) (as : List Value) (S : z_St) (h : Nat.ble (z_sl as).length 3 = true) : z_ew (d + 1) 145 as S = z_R145 d z_fuel 0 0 (z_in 3 as) [] S := zs_ew h
set_option maxRecDepth 100000 in
theorem zq_145_0 (d n z : Nat) (l1 : Int32) (l2 : Int32) (S : z_St) : z_R145 d (n + 1) 0 z [some (.ref 70), some (.int l1), some (.int l2)] [] S = z_cli (z_ew d 113 [.ref 70, .int l1] ((z_w1 S.1 70 1 (nI 0)), S.2)) (fun x2 S1 => if x2 = 0 then (z_cli (z_ew d 111 [.ref 70, .int (nI 1)] S1) (fun x4 S3 => some (.inl (some (.int x4)), S3)) (z_hnd [])) else (z_R145 d n 19 z [some (.ref 70), some (.int l1), some (.int l2)] [] S1)) (z_hnd []) := by
  refine zs_run (L' := [some (.ref 70), some (.int l1), some (.int l2)]) rfl rfl ?_
  exact zs_aload_n rfl (zs_iconst (v := nI 0) rfl (zs_put (S' := ((z_w1 S.1 70 1 (nI 0)), S.2)) rfl rfl (zs_aload_n rfl (zs_iload_n rfl (zs_Vi rfl rfl (Or.inr ⟨Or.inl rfl, _, _, rfl, rfl⟩) (fun x2 S1 => zs_if_ne rfl (zs_aload_n rfl (zs_iconst (v := nI 1) rfl (zs_Vi rfl rfl (Or.inr ⟨Or.inl rfl, _, _, rfl, rfl⟩) (fun x4 S3 => zs_iret rfl) (fun _ _ => rfl))))) (fun _ _ => rfl))))))
set_option maxRecDepth 100000 in
theorem zq_145_19 (d n z : Nat) (l1 : Int32) (l2 : Int32) (S : z_St) : z_R145 d (n + 1) 19 z [some (.ref 70), some (.int l1), some (.int l2)] [] S = z_sw l2 69 0 4 #[36, 43, 50, 56, 62] (fun o => z_R145 d n (z_tg 20 o) z [some (.ref 70), some (.int l1), some (.int l2)] [] S) := by
  refine zs_run (L' := [some (.ref 70), some (.int l1), some (.int l2)]) rfl rfl ?_
  exact zs_iload_n rfl (zs_tsw (fun o => rfl))
set_option maxRecDepth 100000 in
theorem zq_145_56 (d n z : Nat) (l1 : Int32) (d2 : Option Value) (S : z_St) : z_R145 d (n + 1) 56 z [some (.ref 70), some (.int l1), d2] [] S = cond (z_ix l1 20) (some (.inl (some (.int (S.1 72 ((l1).toNatClampNeg)))), S)) none := by
  refine zs_run (L' := [some (.ref 70), some (.int l1), none]) rfl rfl ?_
  exact zs_aload_n rfl (zs_get2 (b := 72) rfl rfl (zs_iload_n rfl (zs_ia (v := (S.1 72 ((l1).toNatClampNeg))) rfl rfl rfl rfl (zs_iret rfl))))
set_option maxRecDepth 100000 in
theorem zq_145_63 (d n z : Nat) (l1 : Int32) (d2 : Option Value) (S : z_St) : z_R145 d (n + 1) 63 z [some (.ref 70), some (.int l1), d2] [] S = cond (z_ix l1 20) (some (.inl (some (.int (S.1 73 ((l1).toNatClampNeg)))), S)) none := by
  refine zs_run (L' := [some (.ref 70), some (.int l1), none]) rfl rfl ?_
  exact zs_aload_n rfl (zs_get2 (b := 73) rfl rfl (zs_iload_n rfl (zs_ia (v := (S.1 73 ((l1).toNatClampNeg))) rfl rfl rfl rfl (zs_iret rfl))))
set_option maxRecDepth 100000 in
theorem zq_145_70 (d n z : Nat) (l1 : Int32) (d2 : Option Value) (S : z_St) : z_R145 d (n + 1) 70 z [some (.ref 70), some (.int l1), d2] [] S = z_cli (z_ew d 143 [.ref 70, .int l1] S) (fun x2 S1 => some (.inl (some (.int x2)), S1)) (z_hnd []) := by
  refine zs_run (L' := [some (.ref 70), some (.int l1), none]) rfl rfl ?_
  exact zs_aload_n rfl (zs_iload_n rfl (zs_Vi rfl rfl (Or.inr ⟨Or.inl rfl, _, _, rfl, rfl⟩) (fun x2 S1 => zs_iret rfl) (fun _ _ => rfl)))
set_option maxRecDepth 100000 in
theorem zq_145_76 (d n z : Nat) (l1 : Int32) (d2 : Option Value) (S : z_St) : z_R145 d (n + 1) 76 z [some (.ref 70), some (.int l1), d2] [] S = z_cli (z_ew d 144 [.ref 70, .int l1] S) (fun x2 S1 => some (.inl (some (.int x2)), S1)) (z_hnd []) := by
  refine zs_run (L' := [some (.ref 70), some (.int l1), none]) rfl rfl ?_
  exact zs_aload_n rfl (zs_iload_n rfl (zs_Vi rfl rfl (Or.inr ⟨Or.inl rfl, _, _, rfl, rfl⟩) (fun x2 S1 => zs_iret rfl) (fun _ _ => rfl)))
set_option maxRecDepth 100000 in
theorem zq_145_82 (d n z : Nat) (l1 : Int32) (d2 : Option Value) (S : z_St) : z_R145 d (n + 1) 82 z [some (.ref 70), some (.int l1), d2] [] S = cond (z_ix l1 10) (some (.inl (some (.int (S.1 86 ((l1).toNatClampNeg)))), S)) none := by
  refine zs_run (L' := [some (.ref 70), some (.int l1), none]) rfl rfl ?_
  exact zs_aload_n rfl (zs_get2 (b := 86) rfl rfl (zs_iload_n rfl (zs_ia (v := (S.1 86 ((l1).toNatClampNeg))) rfl rfl rfl rfl (zs_iret rfl))))
set_option maxRecDepth 100000 in
theorem zq_145_89 (d n z : Nat)  (d1 d2 : Option Value) (S : z_St) : z_R145 d (n + 1) 89 z [some (.ref 70), d1, d2] [] S = z_cli (z_ew d 111 [.ref 70, .int (nI 1)] S) (fun x2 S1 => some (.inl (some (.int x2)), S1)) (z_hnd []) := by
  refine zs_run (L' := [some (.ref 70), none, none]) rfl rfl ?_
  exact zs_aload_n rfl (zs_iconst (v := nI 1) rfl (zs_Vi rfl rfl (Or.inr ⟨Or.inl rfl, _, _, rfl, rfl⟩) (fun x2 S1 => zs_iret rfl) (fun _ _ => rfl)))
/-- SlipRoomModel.reader(II)I -/
noncomputable def z_R146 (d : Nat) : Nat → z_K := z_run false (some .int) [] (z_ew d) z_b146
theorem ze_146 (d : Nat) (as : List Value) (S : z_St) (h : Nat.ble (z_sl as).length 3 = true) : z_ew (d + 1) 146 as S = z_R146 d z_fuel 0 0 (z_in 3 as) [] S := zs_ew h
set_option maxRecDepth 100000 in
theorem zq_146_0 (d n z : Nat) (l1 : Int32) (l2 : Int32) (S : z_St) : z_R146 d (n + 1) 0 z [some (.ref 70), some (.int l1), some (.int l2)] [] S = z_cli (z_ew d 114 [.ref 70, .int l1] ((z_w1 S.1 70 1 (nI 0)), S.2)) (fun x2 S1 => if x2 = 0 then (z_cli (z_ew d 111 [.ref 70, .int (nI 1)] S1) (fun x4 S3 => some (.inl (some (.int x4)), S3)) (z_hnd [])) else (z_R146 d n 19 z [some (.ref 70), some (.int l1), some (.int l2)] [] S1)) (z_hnd []) := by
  refine zs_run (L' := [some (.ref 70), some (.int l1), some (.int l2)]) rfl rfl ?_
  exact zs_aload_n rfl (zs_iconst (v := nI 0) rfl (zs_put (S' := ((z_w1 S.1 70 1 (nI 0)), S.2)) rfl rfl (zs_aload_n rfl (zs_iload_n rfl (zs_Vi rfl rfl (Or.inr ⟨Or.inl rfl, _, _, rfl, rfl⟩) (fun x2 S1 => zs_if_ne rfl (zs_aload_n rfl (zs_iconst (v := nI 1) rfl (zs_Vi rfl rfl (Or.inr ⟨Or.inl rfl, _, _, rfl, rfl⟩) (fun x4 S3 => zs_iret rfl) (fun _ _ => rfl))))) (fun _ _ => rfl))))))
set_option maxRecDepth 100000 in
theorem zq_146_19 (d n z : Nat) (l1 : Int32) (l2 : Int32) (S : z_St) : z_R146 d (n + 1) 19 z [some (.ref 70), some (.int l1), some (.int l2)] [] S = z_sw l2 79 0 4 #[36, 43, 50, 57, 72] (fun o => z_R146 d n (z_tg 20 o) z [some (.ref 70), some (.int l1), some (.int l2)] [] S) := by
  refine zs_run (L' := [some (.ref 70), some (.int l1), some (.int l2)]) rfl rfl ?_
  exact zs_iload_n rfl (zs_tsw (fun o => rfl))
set_option maxRecDepth 100000 in
theorem zq_146_56 (d n z : Nat) (l1 : Int32) (d2 : Option Value) (S : z_St) : z_R146 d (n + 1) 56 z [some (.ref 70), some (.int l1), d2] [] S = cond (z_ix l1 16) (some (.inl (some (.int (S.1 74 ((l1).toNatClampNeg)))), S)) none := by
  refine zs_run (L' := [some (.ref 70), some (.int l1), none]) rfl rfl ?_
  exact zs_aload_n rfl (zs_get2 (b := 74) rfl rfl (zs_iload_n rfl (zs_ia (v := (S.1 74 ((l1).toNatClampNeg))) rfl rfl rfl rfl (zs_iret rfl))))
set_option maxRecDepth 100000 in
theorem zq_146_63 (d n z : Nat) (l1 : Int32) (d2 : Option Value) (S : z_St) : z_R146 d (n + 1) 63 z [some (.ref 70), some (.int l1), d2] [] S = cond (z_ix l1 16) (some (.inl (some (.int (S.1 75 ((l1).toNatClampNeg)))), S)) none := by
  refine zs_run (L' := [some (.ref 70), some (.int l1), none]) rfl rfl ?_
  exact zs_aload_n rfl (zs_get2 (b := 75) rfl rfl (zs_iload_n rfl (zs_ia (v := (S.1 75 ((l1).toNatClampNeg))) rfl rfl rfl rfl (zs_iret rfl))))
set_option maxRecDepth 100000 in
theorem zq_146_70 (d n z : Nat) (l1 : Int32) (d2 : Option Value) (S : z_St) : z_R146 d (n + 1) 70 z [some (.ref 70), some (.int l1), d2] [] S = cond (z_ix l1 16) (some (.inl (some (.int (S.1 76 ((l1).toNatClampNeg)))), S)) none := by
  refine zs_run (L' := [some (.ref 70), some (.int l1), none]) rfl rfl ?_
  exact zs_aload_n rfl (zs_get2 (b := 76) rfl rfl (zs_iload_n rfl (zs_ia (v := (S.1 76 ((l1).toNatClampNeg))) rfl rfl rfl rfl (zs_iret rfl))))
set_option maxRecDepth 100000 in
theorem zq_146_77 (d n z : Nat) (l1 : Int32) (d2 : Option Value) (S : z_St) : z_R146 d (n + 1) 77 z [some (.ref 70), some (.int l1), d2] [] S = cond (z_ix l1 16) (if (S.1 81 ((l1).toNatClampNeg)) = 0 then (z_R146 d n 90 z [some (.ref 70), some (.int l1), none] [] S) else (z_R146 d n 91 z [some (.ref 70), some (.int l1), none] [.int (nI 1)] S)) none := by
  refine zs_run (L' := [some (.ref 70), some (.int l1), none]) rfl rfl ?_
  exact zs_aload_n rfl (zs_get2 (b := 81) rfl rfl (zs_iload_n rfl (zs_ba (v := (S.1 81 ((l1).toNatClampNeg))) rfl rfl rfl (zs_if_eq rfl (zs_iconst (v := nI 1) rfl (zs_goto rfl))))))
set_option maxRecDepth 100000 in
theorem zq_146_90 (d n z : Nat)  (d0 d1 d2 : Option Value) (S : z_St) : z_R146 d (n + 1) 90 z [d0, d1, d2] [] S = z_R146 d n 91 z [none, none, none] [.int (nI 0)] S := by
  refine zs_run (L' := [none, none, none]) rfl rfl ?_
  exact zs_iconst (v := nI 0) rfl (zs_nil rfl)
set_option maxRecDepth 100000 in
theorem zq_146_91 (d n z : Nat) (t0 : Int32) (d0 d1 d2 : Option Value) (S : z_St) : z_R146 d (n + 1) 91 z [d0, d1, d2] [.int t0] S = some (.inl (some (.int t0)), S) := by
  refine zs_run (L' := [none, none, none]) rfl rfl ?_
  exact zs_iret rfl
set_option maxRecDepth 100000 in
theorem zq_146_92 (d n z : Nat) (l1 : Int32) (d2 : Option Value) (S : z_St) : z_R146 d (n + 1) 92 z [some (.ref 70), some (.int l1), d2] [] S = cond (z_ix l1 8) (some (.inl (some (.int (S.1 87 ((l1).toNatClampNeg)))), S)) none := by
  refine zs_run (L' := [some (.ref 70), some (.int l1), none]) rfl rfl ?_
  exact zs_aload_n rfl (zs_get2 (b := 87) rfl rfl (zs_iload_n rfl (zs_ia (v := (S.1 87 ((l1).toNatClampNeg))) rfl rfl rfl rfl (zs_iret rfl))))
set_option maxRecDepth 100000 in
theorem zq_146_99 (d n z : Nat)  (d1 d2 : Option Value) (S : z_St) : z_R146 d (n + 1) 99 z [some (.ref 70), d1, d2] [] S = z_cli (z_ew d 111 [.ref 70, .int (nI 1)] S) (fun x2 S1 => some (.inl (some (.int x2)), S1)) (z_hnd []) := by
  refine zs_run (L' := [some (.ref 70), none, none]) rfl rfl ?_
  exact zs_aload_n rfl (zs_iconst (v := nI 1) rfl (zs_Vi rfl rfl (Or.inr ⟨Or.inl rfl, _, _, rfl, rfl⟩) (fun x2 S1 => zs_iret rfl) (fun _ _ => rfl)))

