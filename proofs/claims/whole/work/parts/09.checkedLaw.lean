theorem z_okb_211_0 : z_okB (z_m 211).2.1 "SlipRoomLaw" ((z_b211.drop (3 * 0)).take 3) = true := by decide +kernel
theorem z_okb_211_1 : z_okB (z_m 211).2.1 "SlipRoomLaw" ((z_b211.drop (3 * 1)).take 3) = true := by decide +kernel
theorem z_okb_211_2 : z_okB (z_m 211).2.1 "SlipRoomLaw" ((z_b211.drop (3 * 2)).take 3) = true := by decide +kernel
theorem z_okb_211_3 : z_okB (z_m 211).2.1 "SlipRoomLaw" ((z_b211.drop (3 * 3)).take 3) = true := by decide +kernel
theorem z_okb_211_4 : z_okB (z_m 211).2.1 "SlipRoomLaw" ((z_b211.drop (3 * 4)).take 3) = true := by decide +kernel
theorem z_okb_211_5 : z_okB (z_m 211).2.1 "SlipRoomLaw" ((z_b211.drop (3 * 5)).take 3) = true := by decide +kernel
theorem z_okb_211_6 : z_okB (z_m 211).2.1 "SlipRoomLaw" ((z_b211.drop (3 * 6)).take 3) = true := by decide +kernel
theorem z_okb_211_7 : z_okB (z_m 211).2.1 "SlipRoomLaw" ((z_b211.drop (3 * 7)).take 3) = true := by decide +kernel
theorem z_okb_211_8 : z_okB (z_m 211).2.1 "SlipRoomLaw" ((z_b211.drop (3 * 8)).take 3) = true := by decide +kernel
theorem z_okb_211_9 : z_okB (z_m 211).2.1 "SlipRoomLaw" ((z_b211.drop (3 * 9)).take 3) = true := by decide +kernel
theorem z_okb_211_10 : z_okB (z_m 211).2.1 "SlipRoomLaw" ((z_b211.drop (3 * 10)).take 3) = true := by decide +kernel
theorem z_okb_211_11 : z_okB (z_m 211).2.1 "SlipRoomLaw" ((z_b211.drop (3 * 11)).take 3) = true := by decide +kernel
theorem z_okb_211_12 : z_okB (z_m 211).2.1 "SlipRoomLaw" ((z_b211.drop (3 * 12)).take 3) = true := by decide +kernel
theorem z_okb_211_13 : z_okB (z_m 211).2.1 "SlipRoomLaw" ((z_b211.drop (3 * 13)).take 3) = true := by decide +kernel
theorem z_okb_211_14 : z_okB (z_m 211).2.1 "SlipRoomLaw" ((z_b211.drop (3 * 14)).take 3) = true := by decide +kernel
theorem z_okb_211_15 : z_okB (z_m 211).2.1 "SlipRoomLaw" ((z_b211.drop (3 * 15)).take 3) = true := by decide +kernel
theorem z_okb_211_16 : z_okB (z_m 211).2.1 "SlipRoomLaw" ((z_b211.drop (3 * 16)).take 3) = true := by decide +kernel
theorem z_okb_211_17 : z_okB (z_m 211).2.1 "SlipRoomLaw" ((z_b211.drop (3 * 17)).take 3) = true := by decide +kernel
theorem z_okb_211_18 : z_okB (z_m 211).2.1 "SlipRoomLaw" ((z_b211.drop (3 * 18)).take 3) = true := by decide +kernel
theorem z_okb_211_19 : z_okB (z_m 211).2.1 "SlipRoomLaw" ((z_b211.drop (3 * 19)).take 3) = true := by decide +kernel
theorem z_okb_211_20 : z_okB (z_m 211).2.1 "SlipRoomLaw" ((z_b211.drop (3 * 20)).take 3) = true := by decide +kernel
theorem z_okb_211_21 : z_okB (z_m 211).2.1 "SlipRoomLaw" ((z_b211.drop (3 * 21)).take 3) = true := by decide +kernel
theorem z_okb_211_22 : z_okB (z_m 211).2.1 "SlipRoomLaw" ((z_b211.drop (3 * 22)).take 3) = true := by decide +kernel
theorem z_okb_211_23 : z_okB (z_m 211).2.1 "SlipRoomLaw" ((z_b211.drop (3 * 23)).take 3) = true := by decide +kernel
theorem z_okb_211 : z_okB (z_m 211).2.1 "SlipRoomLaw" z_b211 = true := by
  refine z_okB_of 3 24 (by decide) (by decide +kernel) (fun i hi => ?_)
  have hc : i = 0 ∨ i = 1 ∨ i = 2 ∨ i = 3 ∨ i = 4 ∨ i = 5 ∨ i = 6 ∨ i = 7 ∨ i = 8 ∨ i = 9 ∨ i = 10 ∨ i = 11 ∨ i = 12 ∨ i = 13 ∨ i = 14 ∨ i = 15 ∨ i = 16 ∨ i = 17 ∨ i = 18 ∨ i = 19 ∨ i = 20 ∨ i = 21 ∨ i = 22 ∨ i = 23 := by omega
  rcases hc with rfl | rfl | rfl | rfl | rfl | rfl | rfl | rfl | rfl | rfl | rfl | rfl | rfl | rfl | rfl | rfl | rfl | rfl | rfl | rfl | rfl | rfl | rfl | rfl
  · exact z_okb_211_0
  · exact z_okb_211_1
  · exact z_okb_211_2
  · exact z_okb_211_3
  · exact z_okb_211_4
  · exact z_okb_211_5
  · exact z_okb_211_6
  · exact z_okb_211_7
  · exact z_okb_211_8
  · exact z_okb_211_9
  · exact z_okb_211_10
  · exact z_okb_211_11
  · exact z_okb_211_12
  · exact z_okb_211_13
  · exact z_okb_211_14
  · exact z_okb_211_15
  · exact z_okb_211_16
  · exact z_okb_211_17
  · exact z_okb_211_18
  · exact z_okb_211_19
  · exact z_okb_211_20
  · exact z_okb_211_21
  · exact z_okb_211_22
  · exact z_okb_211_23
