/-! facts on the classes' tables, decided -/
theorem z_ftg_le : ∀ c, c < 10 → ∀ k, k < z_nf c → (z_ftg c k).1 ≤ 3 := by decide +kernel
def z_ty (c k : Nat) : FieldType := (parseFieldDescriptor (z_TT c k).2.2.1).getD .int
theorem z_ty_ok : ∀ c, c < 10 → ∀ k, k < z_nf c → parseFieldDescriptor (z_TT c k).2.2.1 = some (z_ty c k) := by decide +kernel
theorem z_nm_ok : ∀ c, c < 10 → ∀ a, a < z_nf c → ∀ b, b < z_nf c → a ≠ b → (z_TT c a).2.1 ≠ (z_TT c b).2.1 := by decide +kernel
theorem z_cls_TT : ∀ c, c < 10 → z_cls[c]? = some (z_own.getD c "", z_TT c, z_nf c) := by
  intro c h
  have hc2 : c = 0 ∨ c = 1 ∨ c = 2 ∨ c = 3 ∨ c = 4 ∨ c = 5 ∨ c = 6 ∨ c = 7 ∨ c = 8 ∨ c = 9 := by omega
  rcases hc2 with rfl | rfl | rfl | rfl | rfl | rfl | rfl | rfl | rfl | rfl <;> rfl
theorem z_uw_0 : ((u_ws (z_own.getD 0 "") (z_TT 0) (z_nf 0)).zip ([330, 332, 334] : List Nat)).all (fun q => z_inT q.1 q.2) = true := by decide +kernel
theorem z_uw_1 : ((u_ws (z_own.getD 1 "") (z_TT 1) (z_nf 1)).zip ([284, 286, 288, 290, 292, 294, 296, 298, 300, 302, 304, 306, 308, 310, 312, 314, 316] : List Nat)).all (fun q => z_inT q.1 q.2) = true := by decide +kernel
theorem z_uw_2 : ((u_ws (z_own.getD 2 "") (z_TT 2) (z_nf 2)).zip ([233, 235, 237, 239] : List Nat)).all (fun q => z_inT q.1 q.2) = true := by decide +kernel
theorem z_uw_3 : ((u_ws (z_own.getD 3 "") (z_TT 3) (z_nf 3)).zip ([162, 164, 166, 168, 170, 172, 174, 176, 178, 180, 182, 184] : List Nat)).all (fun q => z_inT q.1 q.2) = true := by decide +kernel
theorem z_uw_4 : ((u_ws (z_own.getD 4 "") (z_TT 4) (z_nf 4)).zip ([406, 408] : List Nat)).all (fun q => z_inT q.1 q.2) = true := by decide +kernel
theorem z_uw_5 : ((u_ws (z_own.getD 5 "") (z_TT 5) (z_nf 5)).zip ([353, 355, 357, 359, 361, 363, 365, 367, 369, 371] : List Nat)).all (fun q => z_inT q.1 q.2) = true := by decide +kernel
theorem z_uw_6 : ((u_ws (z_own.getD 6 "") (z_TT 6) (z_nf 6)).zip ([214, 216, 218, 220, 222, 224, 226] : List Nat)).all (fun q => z_inT q.1 q.2) = true := by decide +kernel
theorem z_uw_7 : ((u_ws (z_own.getD 7 "") (z_TT 7) (z_nf 7)).zip ([387, 389, 391, 393] : List Nat)).all (fun q => z_inT q.1 q.2) = true := by decide +kernel
theorem z_uw_8 : ((u_ws (z_own.getD 8 "") (z_TT 8) (z_nf 8)).zip ([424, 426, 428, 430, 432, 434, 436, 438, 440, 442, 444, 446, 448] : List Nat)).all (fun q => z_inT q.1 q.2) = true := by decide +kernel
theorem z_uw_9 : ((u_ws (z_own.getD 9 "") (z_TT 9) (z_nf 9)).zip ([1237, 1239, 1241, 1243, 1245, 1247, 1249, 1251, 1253, 1255, 1257, 1259, 1261, 1263, 1265, 1267, 1269, 1271, 1273, 1275, 1277, 1279, 1281, 1283, 1285, 1287, 1289, 1291, 1293, 1295, 1297, 1299, 1301, 1303, 1305, 1307, 1309, 1311, 1313, 1315, 1317, 1319, 1321, 1323, 1325, 1327, 1329, 1331, 1333, 1335, 1337, 1339, 1341, 1343, 1345, 1347, 1349, 1351, 1353, 1355, 1357, 1359, 1361, 1363, 1365, 1367, 1369, 1371, 1373, 1375, 1377] : List Nat)).all (fun q => z_inT q.1 q.2) = true := by decide +kernel
theorem z_uw_of {l : List Cond} {ix : List Nat} (hl : l.length = ix.length) (h : (l.zip ix).all (fun q => z_inT q.1 q.2) = true) : ∀ w ∈ l, w ∈ z_tb := by
  intro w hw
  obtain ⟨j, hj⟩ := List.getElem?_of_mem hw
  have hjl : j < l.length := (List.getElem?_eq_some_iff.mp hj).1
  have hx : ix[j]? = some (ix[j]'(by omega)) := List.getElem?_eq_getElem _
  have hz : (l.zip ix)[j]? = some (w, ix[j]'(by omega)) := by
    rw [List.getElem?_zip_eq_some]; exact ⟨hj, hx⟩
  exact z_inT_ok (List.all_eq_true.mp h _ (List.mem_of_getElem? hz))
theorem z_uw (c : Nat) (h : c < 10) : ∀ w ∈ u_ws (z_own.getD c "") (z_TT c) (z_nf c), w ∈ z_tb := by
  have hc2 : c = 0 ∨ c = 1 ∨ c = 2 ∨ c = 3 ∨ c = 4 ∨ c = 5 ∨ c = 6 ∨ c = 7 ∨ c = 8 ∨ c = 9 := by omega
  rcases hc2 with rfl | rfl | rfl | rfl | rfl | rfl | rfl | rfl | rfl | rfl
  · exact z_uw_of (by decide +kernel) z_uw_0
  · exact z_uw_of (by decide +kernel) z_uw_1
  · exact z_uw_of (by decide +kernel) z_uw_2
  · exact z_uw_of (by decide +kernel) z_uw_3
  · exact z_uw_of (by decide +kernel) z_uw_4
  · exact z_uw_of (by decide +kernel) z_uw_5
  · exact z_uw_of (by decide +kernel) z_uw_6
  · exact z_uw_of (by decide +kernel) z_uw_7
  · exact z_uw_of (by decide +kernel) z_uw_8
  · exact z_uw_of (by decide +kernel) z_uw_9
theorem z_acN : Cond.native arraycopyName ∈ z_tb := z_inT_ok (ti := 478) (by decide +kernel)
theorem z_acS : Cond.static arraycopyName ∈ z_tb := z_inT_ok (ti := 477) (by decide +kernel)
theorem z_acI : Cond.initialized "java/lang/System" ∈ z_tb := z_inT_ok (ti := 108) (by decide +kernel)
