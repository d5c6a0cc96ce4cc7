theorem fwX1_9_0 : ah_W "ShipsThatMeet$Captain" 9 0 0 .int true := ⟨_, _, _, tyX0, rfl, by decide, inX0, q_91, tyX0_ok, nmX0, rfl, fun _ => rfl, by decide +kernel⟩
theorem fwX1_9_1 : ah_W "ShipsThatMeet$Captain" 9 1 0 .int true := ⟨_, _, _, tyX1, rfl, by decide, inX1, q_91, tyX1_ok, nmX1, rfl, fun _ => rfl, by decide +kernel⟩
theorem fwX1_9_3 : ah_W "ShipsThatMeet$Captain" 9 3 0 .int true := ⟨_, _, _, tyX3, rfl, by decide, inX3, q_91, tyX3_ok, nmX3, rfl, fun _ => rfl, by decide +kernel⟩
theorem fwX1_9_4 : ah_W "ShipsThatMeet$Captain" 9 4 0 .int true := ⟨_, _, _, tyX4, rfl, by decide, inX4, q_91, tyX4_ok, nmX4, rfl, fun _ => rfl, by decide +kernel⟩
theorem fwX1_9_5 : ah_W "ShipsThatMeet$Captain" 9 5 0 .int true := ⟨_, _, _, tyX5, rfl, by decide, inX5, q_91, tyX5_ok, nmX5, rfl, fun _ => rfl, by decide +kernel⟩
theorem fwX1_9_6 : ah_W "ShipsThatMeet$Captain" 9 6 0 .int true := ⟨_, _, _, tyX6, rfl, by decide, inX6, q_91, tyX6_ok, nmX6, rfl, fun _ => rfl, by decide +kernel⟩
theorem fwX1_9_8 : ah_W "ShipsThatMeet$Captain" 9 8 0 .int true := ⟨_, _, _, tyX8, rfl, by decide, inX8, q_91, tyX8_ok, nmX8, rfl, fun _ => rfl, by decide +kernel⟩
theorem fwX1_9_9 : ah_W "ShipsThatMeet$Captain" 9 9 0 .int true := ⟨_, _, _, tyX9, rfl, by decide, inX9, q_91, tyX9_ok, nmX9, rfl, fun _ => rfl, by decide +kernel⟩
theorem fwX1_9_c : ∀ ci, ah_cap ci = true → ah_W "ShipsThatMeet$Captain" 9 ci 0 .int true := fun ci h => by
  rcases ah_caps h with rfl | rfl | rfl | rfl | rfl | rfl | rfl | rfl
  · exact fwX1_9_0
  · exact fwX1_9_1
  · exact fwX1_9_3
  · exact fwX1_9_4
  · exact fwX1_9_5
  · exact fwX1_9_6
  · exact fwX1_9_8
  · exact fwX1_9_9
theorem fwX1_15_0 : ah_W "ShipsThatMeet$Captain" 15 0 1 .int true := ⟨_, _, _, tyX0, rfl, by decide, inX0, q_93, tyX0_ok, nmX0, rfl, fun _ => rfl, by decide +kernel⟩
theorem fwX1_15_1 : ah_W "ShipsThatMeet$Captain" 15 1 1 .int true := ⟨_, _, _, tyX1, rfl, by decide, inX1, q_93, tyX1_ok, nmX1, rfl, fun _ => rfl, by decide +kernel⟩
theorem fwX1_15_3 : ah_W "ShipsThatMeet$Captain" 15 3 1 .int true := ⟨_, _, _, tyX3, rfl, by decide, inX3, q_93, tyX3_ok, nmX3, rfl, fun _ => rfl, by decide +kernel⟩
theorem fwX1_15_4 : ah_W "ShipsThatMeet$Captain" 15 4 1 .int true := ⟨_, _, _, tyX4, rfl, by decide, inX4, q_93, tyX4_ok, nmX4, rfl, fun _ => rfl, by decide +kernel⟩
theorem fwX1_15_5 : ah_W "ShipsThatMeet$Captain" 15 5 1 .int true := ⟨_, _, _, tyX5, rfl, by decide, inX5, q_93, tyX5_ok, nmX5, rfl, fun _ => rfl, by decide +kernel⟩
theorem fwX1_15_6 : ah_W "ShipsThatMeet$Captain" 15 6 1 .int true := ⟨_, _, _, tyX6, rfl, by decide, inX6, q_93, tyX6_ok, nmX6, rfl, fun _ => rfl, by decide +kernel⟩
theorem fwX1_15_8 : ah_W "ShipsThatMeet$Captain" 15 8 1 .int true := ⟨_, _, _, tyX8, rfl, by decide, inX8, q_93, tyX8_ok, nmX8, rfl, fun _ => rfl, by decide +kernel⟩
theorem fwX1_15_9 : ah_W "ShipsThatMeet$Captain" 15 9 1 .int true := ⟨_, _, _, tyX9, rfl, by decide, inX9, q_93, tyX9_ok, nmX9, rfl, fun _ => rfl, by decide +kernel⟩
theorem fwX1_15_c : ∀ ci, ah_cap ci = true → ah_W "ShipsThatMeet$Captain" 15 ci 1 .int true := fun ci h => by
  rcases ah_caps h with rfl | rfl | rfl | rfl | rfl | rfl | rfl | rfl
  · exact fwX1_15_0
  · exact fwX1_15_1
  · exact fwX1_15_3
  · exact fwX1_15_4
  · exact fwX1_15_5
  · exact fwX1_15_6
  · exact fwX1_15_8
  · exact fwX1_15_9
theorem ffX1_15_0 : ah_F "ShipsThatMeet$Captain" 15 0 1 := ⟨_, _, _, "ShipsThatMeet$Captain", rfl, by decide, inX0, q_93, Or.inl rfl⟩
theorem ffX1_15_1 : ah_F "ShipsThatMeet$Captain" 15 1 1 := ⟨_, _, _, "ShipsThatMeet$Captain", rfl, by decide, inX1, q_93, Or.inl rfl⟩
theorem ffX1_15_3 : ah_F "ShipsThatMeet$Captain" 15 3 1 := ⟨_, _, _, "ShipsThatMeet$Captain", rfl, by decide, inX3, q_93, Or.inl rfl⟩
theorem ffX1_15_4 : ah_F "ShipsThatMeet$Captain" 15 4 1 := ⟨_, _, _, "ShipsThatMeet$Captain", rfl, by decide, inX4, q_93, Or.inl rfl⟩
theorem ffX1_15_5 : ah_F "ShipsThatMeet$Captain" 15 5 1 := ⟨_, _, _, "ShipsThatMeet$Captain", rfl, by decide, inX5, q_93, Or.inl rfl⟩
theorem ffX1_15_6 : ah_F "ShipsThatMeet$Captain" 15 6 1 := ⟨_, _, _, "ShipsThatMeet$Captain", rfl, by decide, inX6, q_93, Or.inl rfl⟩
theorem ffX1_15_8 : ah_F "ShipsThatMeet$Captain" 15 8 1 := ⟨_, _, _, "ShipsThatMeet$Captain", rfl, by decide, inX8, q_93, Or.inl rfl⟩
theorem ffX1_15_9 : ah_F "ShipsThatMeet$Captain" 15 9 1 := ⟨_, _, _, "ShipsThatMeet$Captain", rfl, by decide, inX9, q_93, Or.inl rfl⟩
theorem ffX1_15_c : ∀ ci, ah_cap ci = true → ah_F "ShipsThatMeet$Captain" 15 ci 1 := fun ci h => by
  rcases ah_caps h with rfl | rfl | rfl | rfl | rfl | rfl | rfl | rfl
  · exact ffX1_15_0
  · exact ffX1_15_1
  · exact ffX1_15_3
  · exact ffX1_15_4
  · exact ffX1_15_5
  · exact ffX1_15_6
  · exact ffX1_15_8
  · exact ffX1_15_9
theorem fwX2_11_2 : ah_W "ShipsThatMeet$Fleet" 11 2 3 (.array (.object "ShipsThatMeet$Captain")) true := ⟨_, _, _, tyX2, rfl, by decide, inX2, q_114, tyX2_ok, nmX2, rfl, fun _ => rfl, by decide +kernel⟩
theorem fwX2_20_2 : ah_W "ShipsThatMeet$Fleet" 20 2 4 (.array .int) true := ⟨_, _, _, tyX2, rfl, by decide, inX2, q_116, tyX2_ok, nmX2, rfl, fun _ => rfl, by decide +kernel⟩
theorem fwX2_24_2 : ah_W "ShipsThatMeet$Fleet" 24 2 5 (.array .int) true := ⟨_, _, _, tyX2, rfl, by decide, inX2, q_118, tyX2_ok, nmX2, rfl, fun _ => rfl, by decide +kernel⟩
theorem fwX2_27_2 : ah_W "ShipsThatMeet$Fleet" 27 2 6 (.array .int) true := ⟨_, _, _, tyX2, rfl, by decide, inX2, q_120, tyX2_ok, nmX2, rfl, fun _ => rfl, by decide +kernel⟩
theorem fwX2_30_2 : ah_W "ShipsThatMeet$Fleet" 30 2 7 (.array .int) true := ⟨_, _, _, tyX2, rfl, by decide, inX2, q_123, tyX2_ok, nmX2, rfl, fun _ => rfl, by decide +kernel⟩
theorem fwX2_33_2 : ah_W "ShipsThatMeet$Fleet" 33 2 8 (.array .int) true := ⟨_, _, _, tyX2, rfl, by decide, inX2, q_126, tyX2_ok, nmX2, rfl, fun _ => rfl, by decide +kernel⟩
theorem fwX2_36_2 : ah_W "ShipsThatMeet$Fleet" 36 2 9 (.array .int) true := ⟨_, _, _, tyX2, rfl, by decide, inX2, q_130, tyX2_ok, nmX2, rfl, fun _ => rfl, by decide +kernel⟩
theorem ffX2_11_2 : ah_F "ShipsThatMeet$Fleet" 11 2 3 := ⟨_, _, _, "ShipsThatMeet$Fleet", rfl, by decide, inX2, q_114, Or.inl rfl⟩
theorem ffX2_39_2 : ah_F "ShipsThatMeet$Fleet" 39 2 0 := ⟨_, _, _, "ShipsThatMeet$Fleet", rfl, by decide, inX2, q_108, Or.inl rfl⟩
theorem fwX2_39_2 : ah_W "ShipsThatMeet$Fleet" 39 2 0 .int false := ⟨_, _, _, tyX2, rfl, by decide, inX2, q_108, tyX2_ok, nmX2, rfl, (fun h => by cases h), by decide +kernel⟩
theorem ffX2_43_2 : ah_F "ShipsThatMeet$Fleet" 43 2 1 := ⟨_, _, _, "ShipsThatMeet$Fleet", rfl, by decide, inX2, q_110, Or.inl rfl⟩
theorem fwX2_43_2 : ah_W "ShipsThatMeet$Fleet" 43 2 1 .int false := ⟨_, _, _, tyX2, rfl, by decide, inX2, q_110, tyX2_ok, nmX2, rfl, (fun h => by cases h), by decide +kernel⟩
theorem ffX2_46_2 : ah_F "ShipsThatMeet$Fleet" 46 2 2 := ⟨_, _, _, "ShipsThatMeet$Fleet", rfl, by decide, inX2, q_112, Or.inl rfl⟩
theorem fwX2_46_2 : ah_W "ShipsThatMeet$Fleet" 46 2 2 .int false := ⟨_, _, _, tyX2, rfl, by decide, inX2, q_112, tyX2_ok, nmX2, rfl, (fun h => by cases h), by decide +kernel⟩
theorem ffX2_24_2 : ah_F "ShipsThatMeet$Fleet" 24 2 5 := ⟨_, _, _, "ShipsThatMeet$Fleet", rfl, by decide, inX2, q_118, Or.inl rfl⟩
theorem ffX2_27_2 : ah_F "ShipsThatMeet$Fleet" 27 2 6 := ⟨_, _, _, "ShipsThatMeet$Fleet", rfl, by decide, inX2, q_120, Or.inl rfl⟩
theorem ffX2_30_2 : ah_F "ShipsThatMeet$Fleet" 30 2 7 := ⟨_, _, _, "ShipsThatMeet$Fleet", rfl, by decide, inX2, q_123, Or.inl rfl⟩
theorem ffX2_33_2 : ah_F "ShipsThatMeet$Fleet" 33 2 8 := ⟨_, _, _, "ShipsThatMeet$Fleet", rfl, by decide, inX2, q_126, Or.inl rfl⟩
theorem ffX2_36_2 : ah_F "ShipsThatMeet$Fleet" 36 2 9 := ⟨_, _, _, "ShipsThatMeet$Fleet", rfl, by decide, inX2, q_130, Or.inl rfl⟩
theorem ffX2_20_2 : ah_F "ShipsThatMeet$Fleet" 20 2 4 := ⟨_, _, _, "ShipsThatMeet$Fleet", rfl, by decide, inX2, q_116, Or.inl rfl⟩
theorem ffX3_7_0 : ah_F "ShipsThatMeet$Keep" 7 0 1 := ⟨_, _, _, "ShipsThatMeet$Keep", rfl, by decide, inX0, q_96, Or.inr q_97⟩
theorem ffX3_7_1 : ah_F "ShipsThatMeet$Keep" 7 1 1 := ⟨_, _, _, "ShipsThatMeet$Keep", rfl, by decide, inX1, q_96, Or.inr q_97⟩
theorem ffX3_7_3 : ah_F "ShipsThatMeet$Keep" 7 3 1 := ⟨_, _, _, "ShipsThatMeet$Keep", rfl, by decide, inX3, q_96, Or.inr q_97⟩
theorem ffX3_7_4 : ah_F "ShipsThatMeet$Keep" 7 4 1 := ⟨_, _, _, "ShipsThatMeet$Keep", rfl, by decide, inX4, q_96, Or.inr q_97⟩
theorem ffX3_7_5 : ah_F "ShipsThatMeet$Keep" 7 5 1 := ⟨_, _, _, "ShipsThatMeet$Keep", rfl, by decide, inX5, q_96, Or.inr q_97⟩
theorem ffX3_7_6 : ah_F "ShipsThatMeet$Keep" 7 6 1 := ⟨_, _, _, "ShipsThatMeet$Keep", rfl, by decide, inX6, q_96, Or.inr q_97⟩
theorem ffX3_7_8 : ah_F "ShipsThatMeet$Keep" 7 8 1 := ⟨_, _, _, "ShipsThatMeet$Keep", rfl, by decide, inX8, q_96, Or.inr q_97⟩
theorem ffX3_7_9 : ah_F "ShipsThatMeet$Keep" 7 9 1 := ⟨_, _, _, "ShipsThatMeet$Keep", rfl, by decide, inX9, q_96, Or.inr q_97⟩
theorem ffX3_7_c : ∀ ci, ah_cap ci = true → ah_F "ShipsThatMeet$Keep" 7 ci 1 := fun ci h => by
  rcases ah_caps h with rfl | rfl | rfl | rfl | rfl | rfl | rfl | rfl
  · exact ffX3_7_0
  · exact ffX3_7_1
  · exact ffX3_7_3
  · exact ffX3_7_4
  · exact ffX3_7_5
  · exact ffX3_7_6
  · exact ffX3_7_8
  · exact ffX3_7_9
theorem ffX4_15_0 : ah_F "ShipsThatMeet$Lot" 15 0 1 := ⟨_, _, _, "ShipsThatMeet$Lot", rfl, by decide, inX0, q_98, Or.inr q_99⟩
theorem ffX4_15_1 : ah_F "ShipsThatMeet$Lot" 15 1 1 := ⟨_, _, _, "ShipsThatMeet$Lot", rfl, by decide, inX1, q_98, Or.inr q_99⟩
theorem ffX4_15_3 : ah_F "ShipsThatMeet$Lot" 15 3 1 := ⟨_, _, _, "ShipsThatMeet$Lot", rfl, by decide, inX3, q_98, Or.inr q_99⟩
theorem ffX4_15_4 : ah_F "ShipsThatMeet$Lot" 15 4 1 := ⟨_, _, _, "ShipsThatMeet$Lot", rfl, by decide, inX4, q_98, Or.inr q_99⟩
theorem ffX4_15_5 : ah_F "ShipsThatMeet$Lot" 15 5 1 := ⟨_, _, _, "ShipsThatMeet$Lot", rfl, by decide, inX5, q_98, Or.inr q_99⟩
theorem ffX4_15_6 : ah_F "ShipsThatMeet$Lot" 15 6 1 := ⟨_, _, _, "ShipsThatMeet$Lot", rfl, by decide, inX6, q_98, Or.inr q_99⟩
theorem ffX4_15_8 : ah_F "ShipsThatMeet$Lot" 15 8 1 := ⟨_, _, _, "ShipsThatMeet$Lot", rfl, by decide, inX8, q_98, Or.inr q_99⟩
theorem ffX4_15_9 : ah_F "ShipsThatMeet$Lot" 15 9 1 := ⟨_, _, _, "ShipsThatMeet$Lot", rfl, by decide, inX9, q_98, Or.inr q_99⟩
theorem ffX4_15_c : ∀ ci, ah_cap ci = true → ah_F "ShipsThatMeet$Lot" 15 ci 1 := fun ci h => by
  rcases ah_caps h with rfl | rfl | rfl | rfl | rfl | rfl | rfl | rfl
  · exact ffX4_15_0
  · exact ffX4_15_1
  · exact ffX4_15_3
  · exact ffX4_15_4
  · exact ffX4_15_5
  · exact ffX4_15_6
  · exact ffX4_15_8
  · exact ffX4_15_9
theorem fwX7_9_7 : ah_W "ShipsThatMeet$Shelf" 9 7 0 (.object "ShipsThatMeet$Captain") false := ⟨_, _, _, tyX7, rfl, by decide, inX7, q_161, tyX7_ok, nmX7, rfl, (fun h => by cases h), by decide +kernel⟩
theorem fwX7_15_7 : ah_W "ShipsThatMeet$Shelf" 15 7 1 .int false := ⟨_, _, _, tyX7, rfl, by decide, inX7, q_163, tyX7_ok, nmX7, rfl, (fun h => by cases h), by decide +kernel⟩
theorem fwX7_19_7 : ah_W "ShipsThatMeet$Shelf" 19 7 2 .int false := ⟨_, _, _, tyX7, rfl, by decide, inX7, q_165, tyX7_ok, nmX7, rfl, (fun h => by cases h), by decide +kernel⟩
theorem fwX7_22_7 : ah_W "ShipsThatMeet$Shelf" 22 7 3 (.array .int) true := ⟨_, _, _, tyX7, rfl, by decide, inX7, q_167, tyX7_ok, nmX7, rfl, fun _ => rfl, by decide +kernel⟩
theorem ffX7_9_7 : ah_F "ShipsThatMeet$Shelf" 9 7 0 := ⟨_, _, _, "ShipsThatMeet$Shelf", rfl, by decide, inX7, q_161, Or.inl rfl⟩
theorem ffX7_15_7 : ah_F "ShipsThatMeet$Shelf" 15 7 1 := ⟨_, _, _, "ShipsThatMeet$Shelf", rfl, by decide, inX7, q_163, Or.inl rfl⟩
theorem ffX7_22_7 : ah_F "ShipsThatMeet$Shelf" 22 7 3 := ⟨_, _, _, "ShipsThatMeet$Shelf", rfl, by decide, inX7, q_167, Or.inl rfl⟩
theorem ffX7_19_7 : ah_F "ShipsThatMeet$Shelf" 19 7 2 := ⟨_, _, _, "ShipsThatMeet$Shelf", rfl, by decide, inX7, q_165, Or.inl rfl⟩
theorem ffX8_7_0 : ah_F "ShipsThatMeet$Told" 7 0 1 := ⟨_, _, _, "ShipsThatMeet$Told", rfl, by decide, inX0, q_94, Or.inr q_95⟩
theorem ffX8_7_1 : ah_F "ShipsThatMeet$Told" 7 1 1 := ⟨_, _, _, "ShipsThatMeet$Told", rfl, by decide, inX1, q_94, Or.inr q_95⟩
theorem ffX8_7_3 : ah_F "ShipsThatMeet$Told" 7 3 1 := ⟨_, _, _, "ShipsThatMeet$Told", rfl, by decide, inX3, q_94, Or.inr q_95⟩
theorem ffX8_7_4 : ah_F "ShipsThatMeet$Told" 7 4 1 := ⟨_, _, _, "ShipsThatMeet$Told", rfl, by decide, inX4, q_94, Or.inr q_95⟩
theorem ffX8_7_5 : ah_F "ShipsThatMeet$Told" 7 5 1 := ⟨_, _, _, "ShipsThatMeet$Told", rfl, by decide, inX5, q_94, Or.inr q_95⟩
theorem ffX8_7_6 : ah_F "ShipsThatMeet$Told" 7 6 1 := ⟨_, _, _, "ShipsThatMeet$Told", rfl, by decide, inX6, q_94, Or.inr q_95⟩
theorem ffX8_7_8 : ah_F "ShipsThatMeet$Told" 7 8 1 := ⟨_, _, _, "ShipsThatMeet$Told", rfl, by decide, inX8, q_94, Or.inr q_95⟩
theorem ffX8_7_9 : ah_F "ShipsThatMeet$Told" 7 9 1 := ⟨_, _, _, "ShipsThatMeet$Told", rfl, by decide, inX9, q_94, Or.inr q_95⟩
theorem ffX8_7_c : ∀ ci, ah_cap ci = true → ah_F "ShipsThatMeet$Told" 7 ci 1 := fun ci h => by
  rcases ah_caps h with rfl | rfl | rfl | rfl | rfl | rfl | rfl | rfl
  · exact ffX8_7_0
  · exact ffX8_7_1
  · exact ffX8_7_3
  · exact ffX8_7_4
  · exact ffX8_7_5
  · exact ffX8_7_6
  · exact ffX8_7_8
  · exact ffX8_7_9
theorem ffX9_19_0 : ah_F "ShipsThatMeet$Want" 19 0 1 := ⟨_, _, _, "ShipsThatMeet$Want", rfl, by decide, inX0, q_100, Or.inr q_101⟩
theorem ffX9_19_1 : ah_F "ShipsThatMeet$Want" 19 1 1 := ⟨_, _, _, "ShipsThatMeet$Want", rfl, by decide, inX1, q_100, Or.inr q_101⟩
theorem ffX9_19_3 : ah_F "ShipsThatMeet$Want" 19 3 1 := ⟨_, _, _, "ShipsThatMeet$Want", rfl, by decide, inX3, q_100, Or.inr q_101⟩
theorem ffX9_19_4 : ah_F "ShipsThatMeet$Want" 19 4 1 := ⟨_, _, _, "ShipsThatMeet$Want", rfl, by decide, inX4, q_100, Or.inr q_101⟩
theorem ffX9_19_5 : ah_F "ShipsThatMeet$Want" 19 5 1 := ⟨_, _, _, "ShipsThatMeet$Want", rfl, by decide, inX5, q_100, Or.inr q_101⟩
theorem ffX9_19_6 : ah_F "ShipsThatMeet$Want" 19 6 1 := ⟨_, _, _, "ShipsThatMeet$Want", rfl, by decide, inX6, q_100, Or.inr q_101⟩
theorem ffX9_19_8 : ah_F "ShipsThatMeet$Want" 19 8 1 := ⟨_, _, _, "ShipsThatMeet$Want", rfl, by decide, inX8, q_100, Or.inr q_101⟩
theorem ffX9_19_9 : ah_F "ShipsThatMeet$Want" 19 9 1 := ⟨_, _, _, "ShipsThatMeet$Want", rfl, by decide, inX9, q_100, Or.inr q_101⟩
theorem ffX9_19_c : ∀ ci, ah_cap ci = true → ah_F "ShipsThatMeet$Want" 19 ci 1 := fun ci h => by
  rcases ah_caps h with rfl | rfl | rfl | rfl | rfl | rfl | rfl | rfl
  · exact ffX9_19_0
  · exact ffX9_19_1
  · exact ffX9_19_3
  · exact ffX9_19_4
  · exact ffX9_19_5
  · exact ffX9_19_6
  · exact ffX9_19_8
  · exact ffX9_19_9
theorem fwX10_10_10 : ah_W "ShipsThatMeet" 10 10 0 (.object "ShipsThatMeet$Fleet") true := ⟨_, _, _, tyX10, rfl, by decide, inX10, q_180, tyX10_ok, nmX10, rfl, fun _ => rfl, by decide +kernel⟩
theorem fwX10_16_10 : ah_W "ShipsThatMeet" 16 10 1 (.object "ShipsThatMeet$Fleet") true := ⟨_, _, _, tyX10, rfl, by decide, inX10, q_181, tyX10_ok, nmX10, rfl, fun _ => rfl, by decide +kernel⟩
theorem fwX10_19_10 : ah_W "ShipsThatMeet" 19 10 2 (.object "ShipsThatMeet$Fleet") true := ⟨_, _, _, tyX10, rfl, by decide, inX10, q_182, tyX10_ok, nmX10, rfl, fun _ => rfl, by decide +kernel⟩
theorem fwX10_22_10 : ah_W "ShipsThatMeet" 22 10 3 .boolean false := ⟨_, _, _, tyX10, rfl, by decide, inX10, q_183, tyX10_ok, nmX10, rfl, (fun h => by cases h), by decide +kernel⟩
theorem fwX10_28_10 : ah_W "ShipsThatMeet" 28 10 4 (.array (.object "ShipsThatMeet$Shelf")) true := ⟨_, _, _, tyX10, rfl, by decide, inX10, q_184, tyX10_ok, nmX10, rfl, fun _ => rfl, by decide +kernel⟩
theorem fwX10_35_10 : ah_W "ShipsThatMeet" 35 10 5 (.array (.array .int)) true := ⟨_, _, _, tyX10, rfl, by decide, inX10, q_185, tyX10_ok, nmX10, rfl, fun _ => rfl, by decide +kernel⟩
theorem fwX10_38_10 : ah_W "ShipsThatMeet" 38 10 6 (.array .int) true := ⟨_, _, _, tyX10, rfl, by decide, inX10, q_186, tyX10_ok, nmX10, rfl, fun _ => rfl, by decide +kernel⟩
theorem fwX10_42_10 : ah_W "ShipsThatMeet" 42 10 7 (.array .long) true := ⟨_, _, _, tyX10, rfl, by decide, inX10, q_187, tyX10_ok, nmX10, rfl, fun _ => rfl, by decide +kernel⟩
theorem ffX10_28_10 : ah_F "ShipsThatMeet" 28 10 4 := ⟨_, _, _, "ShipsThatMeet", rfl, by decide, inX10, q_184, Or.inl rfl⟩
theorem ffX10_10_10 : ah_F "ShipsThatMeet" 10 10 0 := ⟨_, _, _, "ShipsThatMeet", rfl, by decide, inX10, q_180, Or.inl rfl⟩
theorem ffX10_76_2 : ah_F "ShipsThatMeet" 76 2 3 := ⟨_, _, _, "ShipsThatMeet$Fleet", rfl, by decide, inX2, q_115, Or.inl rfl⟩
theorem ffX10_80_0 : ah_F "ShipsThatMeet" 80 0 0 := ⟨_, _, _, "ShipsThatMeet$Captain", rfl, by decide, inX0, q_92, Or.inl rfl⟩
theorem ffX10_80_1 : ah_F "ShipsThatMeet" 80 1 0 := ⟨_, _, _, "ShipsThatMeet$Captain", rfl, by decide, inX1, q_92, Or.inl rfl⟩
theorem ffX10_80_3 : ah_F "ShipsThatMeet" 80 3 0 := ⟨_, _, _, "ShipsThatMeet$Captain", rfl, by decide, inX3, q_92, Or.inl rfl⟩
theorem ffX10_80_4 : ah_F "ShipsThatMeet" 80 4 0 := ⟨_, _, _, "ShipsThatMeet$Captain", rfl, by decide, inX4, q_92, Or.inl rfl⟩
theorem ffX10_80_5 : ah_F "ShipsThatMeet" 80 5 0 := ⟨_, _, _, "ShipsThatMeet$Captain", rfl, by decide, inX5, q_92, Or.inl rfl⟩
theorem ffX10_80_6 : ah_F "ShipsThatMeet" 80 6 0 := ⟨_, _, _, "ShipsThatMeet$Captain", rfl, by decide, inX6, q_92, Or.inl rfl⟩
theorem ffX10_80_8 : ah_F "ShipsThatMeet" 80 8 0 := ⟨_, _, _, "ShipsThatMeet$Captain", rfl, by decide, inX8, q_92, Or.inl rfl⟩
theorem ffX10_80_9 : ah_F "ShipsThatMeet" 80 9 0 := ⟨_, _, _, "ShipsThatMeet$Captain", rfl, by decide, inX9, q_92, Or.inl rfl⟩
theorem ffX10_80_c : ∀ ci, ah_cap ci = true → ah_F "ShipsThatMeet" 80 ci 0 := fun ci h => by
  rcases ah_caps h with rfl | rfl | rfl | rfl | rfl | rfl | rfl | rfl
  · exact ffX10_80_0
  · exact ffX10_80_1
  · exact ffX10_80_3
  · exact ffX10_80_4
  · exact ffX10_80_5
  · exact ffX10_80_6
  · exact ffX10_80_8
  · exact ffX10_80_9
theorem ffX10_85_0 : ah_F "ShipsThatMeet" 85 0 1 := ⟨_, _, _, "ShipsThatMeet$Captain", rfl, by decide, inX0, q_102, Or.inl rfl⟩
theorem ffX10_85_1 : ah_F "ShipsThatMeet" 85 1 1 := ⟨_, _, _, "ShipsThatMeet$Captain", rfl, by decide, inX1, q_102, Or.inl rfl⟩
theorem ffX10_85_3 : ah_F "ShipsThatMeet" 85 3 1 := ⟨_, _, _, "ShipsThatMeet$Captain", rfl, by decide, inX3, q_102, Or.inl rfl⟩
theorem ffX10_85_4 : ah_F "ShipsThatMeet" 85 4 1 := ⟨_, _, _, "ShipsThatMeet$Captain", rfl, by decide, inX4, q_102, Or.inl rfl⟩
theorem ffX10_85_5 : ah_F "ShipsThatMeet" 85 5 1 := ⟨_, _, _, "ShipsThatMeet$Captain", rfl, by decide, inX5, q_102, Or.inl rfl⟩
theorem ffX10_85_6 : ah_F "ShipsThatMeet" 85 6 1 := ⟨_, _, _, "ShipsThatMeet$Captain", rfl, by decide, inX6, q_102, Or.inl rfl⟩
theorem ffX10_85_8 : ah_F "ShipsThatMeet" 85 8 1 := ⟨_, _, _, "ShipsThatMeet$Captain", rfl, by decide, inX8, q_102, Or.inl rfl⟩
theorem ffX10_85_9 : ah_F "ShipsThatMeet" 85 9 1 := ⟨_, _, _, "ShipsThatMeet$Captain", rfl, by decide, inX9, q_102, Or.inl rfl⟩
theorem ffX10_85_c : ∀ ci, ah_cap ci = true → ah_F "ShipsThatMeet" 85 ci 1 := fun ci h => by
  rcases ah_caps h with rfl | rfl | rfl | rfl | rfl | rfl | rfl | rfl
  · exact ffX10_85_0
  · exact ffX10_85_1
  · exact ffX10_85_3
  · exact ffX10_85_4
  · exact ffX10_85_5
  · exact ffX10_85_6
  · exact ffX10_85_8
  · exact ffX10_85_9
theorem ffX10_88_2 : ah_F "ShipsThatMeet" 88 2 4 := ⟨_, _, _, "ShipsThatMeet$Fleet", rfl, by decide, inX2, q_117, Or.inl rfl⟩
theorem ffX10_102_2 : ah_F "ShipsThatMeet" 102 2 5 := ⟨_, _, _, "ShipsThatMeet$Fleet", rfl, by decide, inX2, q_119, Or.inl rfl⟩
theorem ffX10_105_2 : ah_F "ShipsThatMeet" 105 2 6 := ⟨_, _, _, "ShipsThatMeet$Fleet", rfl, by decide, inX2, q_122, Or.inl rfl⟩
theorem ffX10_108_2 : ah_F "ShipsThatMeet" 108 2 7 := ⟨_, _, _, "ShipsThatMeet$Fleet", rfl, by decide, inX2, q_125, Or.inl rfl⟩
theorem ffX10_111_2 : ah_F "ShipsThatMeet" 111 2 8 := ⟨_, _, _, "ShipsThatMeet$Fleet", rfl, by decide, inX2, q_129, Or.inl rfl⟩
theorem ffX10_179_2 : ah_F "ShipsThatMeet" 179 2 9 := ⟨_, _, _, "ShipsThatMeet$Fleet", rfl, by decide, inX2, q_131, Or.inl rfl⟩
theorem ffX10_182_2 : ah_F "ShipsThatMeet" 182 2 1 := ⟨_, _, _, "ShipsThatMeet$Fleet", rfl, by decide, inX2, q_111, Or.inl rfl⟩
theorem ffX10_188_2 : ah_F "ShipsThatMeet" 188 2 0 := ⟨_, _, _, "ShipsThatMeet$Fleet", rfl, by decide, inX2, q_109, Or.inl rfl⟩
theorem ffX10_16_10 : ah_F "ShipsThatMeet" 16 10 1 := ⟨_, _, _, "ShipsThatMeet", rfl, by decide, inX10, q_181, Or.inl rfl⟩
theorem ffX10_19_10 : ah_F "ShipsThatMeet" 19 10 2 := ⟨_, _, _, "ShipsThatMeet", rfl, by decide, inX10, q_182, Or.inl rfl⟩
theorem ffX10_230_2 : ah_F "ShipsThatMeet" 230 2 2 := ⟨_, _, _, "ShipsThatMeet$Fleet", rfl, by decide, inX2, q_113, Or.inl rfl⟩
theorem ffX10_22_10 : ah_F "ShipsThatMeet" 22 10 3 := ⟨_, _, _, "ShipsThatMeet", rfl, by decide, inX10, q_183, Or.inl rfl⟩
theorem ffX10_117_7 : ah_F "ShipsThatMeet" 117 7 0 := ⟨_, _, _, "ShipsThatMeet$Shelf", rfl, by decide, inX7, q_162, Or.inl rfl⟩
theorem ffX10_275_7 : ah_F "ShipsThatMeet" 275 7 1 := ⟨_, _, _, "ShipsThatMeet$Shelf", rfl, by decide, inX7, q_164, Or.inl rfl⟩
theorem ffX10_58_7 : ah_F "ShipsThatMeet" 58 7 2 := ⟨_, _, _, "ShipsThatMeet$Shelf", rfl, by decide, inX7, q_166, Or.inl rfl⟩
theorem ffX10_38_10 : ah_F "ShipsThatMeet" 38 10 6 := ⟨_, _, _, "ShipsThatMeet", rfl, by decide, inX10, q_186, Or.inl rfl⟩
theorem ffX10_35_10 : ah_F "ShipsThatMeet" 35 10 5 := ⟨_, _, _, "ShipsThatMeet", rfl, by decide, inX10, q_185, Or.inl rfl⟩
theorem fwX11_9_11 : ah_W "ShipsThatMeetModel" 9 11 0 (.array .int) true := ⟨_, _, _, tyX11, rfl, by decide, inX11, q_884, tyX11_ok, nmX11, rfl, fun _ => rfl, by decide +kernel⟩
theorem fwX11_13_11 : ah_W "ShipsThatMeetModel" 13 11 1 (.array .int) true := ⟨_, _, _, tyX11, rfl, by decide, inX11, q_885, tyX11_ok, nmX11, rfl, fun _ => rfl, by decide +kernel⟩
theorem fwX11_16_11 : ah_W "ShipsThatMeetModel" 16 11 2 (.array .int) true := ⟨_, _, _, tyX11, rfl, by decide, inX11, q_886, tyX11_ok, nmX11, rfl, fun _ => rfl, by decide +kernel⟩
theorem fwX11_19_11 : ah_W "ShipsThatMeetModel" 19 11 3 (.array .int) true := ⟨_, _, _, tyX11, rfl, by decide, inX11, q_887, tyX11_ok, nmX11, rfl, fun _ => rfl, by decide +kernel⟩
theorem fwX11_22_11 : ah_W "ShipsThatMeetModel" 22 11 4 (.array .int) true := ⟨_, _, _, tyX11, rfl, by decide, inX11, q_888, tyX11_ok, nmX11, rfl, fun _ => rfl, by decide +kernel⟩
theorem fwX11_25_11 : ah_W "ShipsThatMeetModel" 25 11 5 (.array .int) true := ⟨_, _, _, tyX11, rfl, by decide, inX11, q_889, tyX11_ok, nmX11, rfl, fun _ => rfl, by decide +kernel⟩
theorem fwX11_28_11 : ah_W "ShipsThatMeetModel" 28 11 6 (.array .int) true := ⟨_, _, _, tyX11, rfl, by decide, inX11, q_890, tyX11_ok, nmX11, rfl, fun _ => rfl, by decide +kernel⟩
theorem fwX11_31_11 : ah_W "ShipsThatMeetModel" 31 11 7 (.array .int) true := ⟨_, _, _, tyX11, rfl, by decide, inX11, q_891, tyX11_ok, nmX11, rfl, fun _ => rfl, by decide +kernel⟩
theorem fwX11_34_11 : ah_W "ShipsThatMeetModel" 34 11 8 (.array .int) true := ⟨_, _, _, tyX11, rfl, by decide, inX11, q_892, tyX11_ok, nmX11, rfl, fun _ => rfl, by decide +kernel⟩
theorem fwX11_37_11 : ah_W "ShipsThatMeetModel" 37 11 9 (.array .int) true := ⟨_, _, _, tyX11, rfl, by decide, inX11, q_893, tyX11_ok, nmX11, rfl, fun _ => rfl, by decide +kernel⟩
theorem fwX11_40_11 : ah_W "ShipsThatMeetModel" 40 11 18 (.array .int) true := ⟨_, _, _, tyX11, rfl, by decide, inX11, q_901, tyX11_ok, nmX11, rfl, fun _ => rfl, by decide +kernel⟩
theorem fwX11_43_11 : ah_W "ShipsThatMeetModel" 43 11 19 (.array .long) true := ⟨_, _, _, tyX11, rfl, by decide, inX11, q_902, tyX11_ok, nmX11, rfl, fun _ => rfl, by decide +kernel⟩
theorem fwX11_47_11 : ah_W "ShipsThatMeetModel" 47 11 20 (.array .int) true := ⟨_, _, _, tyX11, rfl, by decide, inX11, q_903, tyX11_ok, nmX11, rfl, fun _ => rfl, by decide +kernel⟩
theorem fwX11_50_11 : ah_W "ShipsThatMeetModel" 50 11 22 (.array .int) true := ⟨_, _, _, tyX11, rfl, by decide, inX11, q_905, tyX11_ok, nmX11, rfl, fun _ => rfl, by decide +kernel⟩
theorem ffX11_53_11 : ah_F "ShipsThatMeetModel" 53 11 11 := ⟨_, _, _, "ShipsThatMeetModel", rfl, by decide, inX11, q_895, Or.inl rfl⟩
theorem ffX11_9_11 : ah_F "ShipsThatMeetModel" 9 11 0 := ⟨_, _, _, "ShipsThatMeetModel", rfl, by decide, inX11, q_884, Or.inl rfl⟩
theorem fwX11_111_11 : ah_W "ShipsThatMeetModel" 111 11 12 .int false := ⟨_, _, _, tyX11, rfl, by decide, inX11, q_896, tyX11_ok, nmX11, rfl, (fun h => by cases h), by decide +kernel⟩
theorem fwX11_114_11 : ah_W "ShipsThatMeetModel" 114 11 13 .int false := ⟨_, _, _, tyX11, rfl, by decide, inX11, q_897, tyX11_ok, nmX11, rfl, (fun h => by cases h), by decide +kernel⟩
theorem ffX11_111_11 : ah_F "ShipsThatMeetModel" 111 11 12 := ⟨_, _, _, "ShipsThatMeetModel", rfl, by decide, inX11, q_896, Or.inl rfl⟩
theorem ffX11_114_11 : ah_F "ShipsThatMeetModel" 114 11 13 := ⟨_, _, _, "ShipsThatMeetModel", rfl, by decide, inX11, q_897, Or.inl rfl⟩
theorem ffX11_121_11 : ah_F "ShipsThatMeetModel" 121 11 14 := ⟨_, _, _, "ShipsThatMeetModel", rfl, by decide, inX11, q_898, Or.inl rfl⟩
theorem ffX11_124_11 : ah_F "ShipsThatMeetModel" 124 11 16 := ⟨_, _, _, "ShipsThatMeetModel", rfl, by decide, inX11, q_900, Or.inl rfl⟩
theorem ffX11_31_11 : ah_F "ShipsThatMeetModel" 31 11 7 := ⟨_, _, _, "ShipsThatMeetModel", rfl, by decide, inX11, q_891, Or.inl rfl⟩
theorem ffX11_127_11 : ah_F "ShipsThatMeetModel" 127 11 15 := ⟨_, _, _, "ShipsThatMeetModel", rfl, by decide, inX11, q_899, Or.inl rfl⟩
theorem ffX11_40_11 : ah_F "ShipsThatMeetModel" 40 11 18 := ⟨_, _, _, "ShipsThatMeetModel", rfl, by decide, inX11, q_901, Or.inl rfl⟩
theorem fwX11_121_11 : ah_W "ShipsThatMeetModel" 121 11 14 .int false := ⟨_, _, _, tyX11, rfl, by decide, inX11, q_898, tyX11_ok, nmX11, rfl, (fun h => by cases h), by decide +kernel⟩
theorem ffX11_22_11 : ah_F "ShipsThatMeetModel" 22 11 4 := ⟨_, _, _, "ShipsThatMeetModel", rfl, by decide, inX11, q_888, Or.inl rfl⟩
theorem ffX11_25_11 : ah_F "ShipsThatMeetModel" 25 11 5 := ⟨_, _, _, "ShipsThatMeetModel", rfl, by decide, inX11, q_889, Or.inl rfl⟩
theorem fwX11_127_11 : ah_W "ShipsThatMeetModel" 127 11 15 .int false := ⟨_, _, _, tyX11, rfl, by decide, inX11, q_899, tyX11_ok, nmX11, rfl, (fun h => by cases h), by decide +kernel⟩
theorem ffX11_28_11 : ah_F "ShipsThatMeetModel" 28 11 6 := ⟨_, _, _, "ShipsThatMeetModel", rfl, by decide, inX11, q_890, Or.inl rfl⟩
theorem fwX11_124_11 : ah_W "ShipsThatMeetModel" 124 11 16 .int false := ⟨_, _, _, tyX11, rfl, by decide, inX11, q_900, tyX11_ok, nmX11, rfl, (fun h => by cases h), by decide +kernel⟩
theorem ffX11_16_11 : ah_F "ShipsThatMeetModel" 16 11 2 := ⟨_, _, _, "ShipsThatMeetModel", rfl, by decide, inX11, q_886, Or.inl rfl⟩
theorem ffX11_34_11 : ah_F "ShipsThatMeetModel" 34 11 8 := ⟨_, _, _, "ShipsThatMeetModel", rfl, by decide, inX11, q_892, Or.inl rfl⟩
theorem ffX11_37_11 : ah_F "ShipsThatMeetModel" 37 11 9 := ⟨_, _, _, "ShipsThatMeetModel", rfl, by decide, inX11, q_893, Or.inl rfl⟩
theorem ffX11_19_11 : ah_F "ShipsThatMeetModel" 19 11 3 := ⟨_, _, _, "ShipsThatMeetModel", rfl, by decide, inX11, q_887, Or.inl rfl⟩
theorem ffX11_43_11 : ah_F "ShipsThatMeetModel" 43 11 19 := ⟨_, _, _, "ShipsThatMeetModel", rfl, by decide, inX11, q_902, Or.inl rfl⟩
theorem ffX11_47_11 : ah_F "ShipsThatMeetModel" 47 11 20 := ⟨_, _, _, "ShipsThatMeetModel", rfl, by decide, inX11, q_903, Or.inl rfl⟩
theorem ffX11_50_11 : ah_F "ShipsThatMeetModel" 50 11 22 := ⟨_, _, _, "ShipsThatMeetModel", rfl, by decide, inX11, q_905, Or.inl rfl⟩
theorem fwX11_212_11 : ah_W "ShipsThatMeetModel" 212 11 21 .int false := ⟨_, _, _, tyX11, rfl, by decide, inX11, q_904, tyX11_ok, nmX11, rfl, (fun h => by cases h), by decide +kernel⟩
theorem ffX11_212_11 : ah_F "ShipsThatMeetModel" 212 11 21 := ⟨_, _, _, "ShipsThatMeetModel", rfl, by decide, inX11, q_904, Or.inl rfl⟩
theorem ffX11_226_11 : ah_F "ShipsThatMeetModel" 226 11 23 := ⟨_, _, _, "ShipsThatMeetModel", rfl, by decide, inX11, q_906, Or.inl rfl⟩
theorem fwX11_226_11 : ah_W "ShipsThatMeetModel" 226 11 23 .int false := ⟨_, _, _, tyX11, rfl, by decide, inX11, q_906, tyX11_ok, nmX11, rfl, (fun h => by cases h), by decide +kernel⟩
theorem ffX11_13_11 : ah_F "ShipsThatMeetModel" 13 11 1 := ⟨_, _, _, "ShipsThatMeetModel", rfl, by decide, inX11, q_885, Or.inl rfl⟩
theorem fwX11_240_11 : ah_W "ShipsThatMeetModel" 240 11 10 .boolean false := ⟨_, _, _, tyX11, rfl, by decide, inX11, q_894, tyX11_ok, nmX11, rfl, (fun h => by cases h), by decide +kernel⟩
theorem ffX11_240_11 : ah_F "ShipsThatMeetModel" 240 11 10 := ⟨_, _, _, "ShipsThatMeetModel", rfl, by decide, inX11, q_894, Or.inl rfl⟩
theorem fwX11_53_11 : ah_W "ShipsThatMeetModel" 53 11 11 .int false := ⟨_, _, _, tyX11, rfl, by decide, inX11, q_895, tyX11_ok, nmX11, rfl, (fun h => by cases h), by decide +kernel⟩
theorem ffX5_13_2 : ah_F "ShipsThatMeet$New" 13 2 8 := ⟨_, _, _, "ShipsThatMeet$Fleet", rfl, by decide, inX2, q_128, Or.inl rfl⟩
theorem ffX6_13_2 : ah_F "ShipsThatMeet$Old" 13 2 8 := ⟨_, _, _, "ShipsThatMeet$Fleet", rfl, by decide, inX2, q_127, Or.inl rfl⟩
theorem ffX9_13_2 : ah_F "ShipsThatMeet$Want" 13 2 6 := ⟨_, _, _, "ShipsThatMeet$Fleet", rfl, by decide, inX2, q_121, Or.inl rfl⟩
theorem ffX10_281_7 : ah_F "ShipsThatMeet" 281 7 3 := ⟨_, _, _, "ShipsThatMeet$Shelf", rfl, by decide, inX7, q_168, Or.inl rfl⟩
theorem ffX10_42_10 : ah_F "ShipsThatMeet" 42 10 7 := ⟨_, _, _, "ShipsThatMeet", rfl, by decide, inX10, q_187, Or.inl rfl⟩
theorem ffX0_19_2 : ah_F "ShipsThatMeet$Best" 19 2 7 := ⟨_, _, _, "ShipsThatMeet$Fleet", rfl, by decide, inX2, q_124, Or.inl rfl⟩
theorem hdX1_init : ah_d yX1_init 2 := by decide +kernel
theorem hdX2_isShip : ah_d yX2_isShip 1 := by decide +kernel
theorem hdX2_areUnlikeShips : ah_d yX2_areUnlikeShips 2 := by decide +kernel
theorem hdX2_canMeet : ah_d yX2_canMeet 2 := by decide +kernel
theorem hdX2_isMan : ah_d yX2_isMan 1 := by decide +kernel
theorem hdX2_isAstray : ah_d yX2_isAstray 2 := by decide +kernel
theorem hdX2_firstAstray : ah_d yX2_firstAstray 1 := by decide +kernel
theorem hdX5_init : ah_d yX5_init 2 := by decide +kernel
theorem hdX7_holdNothing : ah_d yX7_holdNothing 0 := by decide +kernel
theorem hdX7_hasPlace : ah_d yX7_hasPlace 1 := by decide +kernel
theorem hdX7_at : ah_d yX7_at 1 := by decide +kernel
theorem hdX2_init : ah_d yX2_init 0 := by decide +kernel
theorem hdX7_init : ah_d yX7_init 0 := by decide +kernel
theorem hdX2_mixedPairs : ah_d yX2_mixedPairs 0 := by decide +kernel
theorem hdX2_become : ah_d yX2_become 1 := by decide +kernel
theorem hdX2_hasTrade : ah_d yX2_hasTrade 2 := by decide +kernel
theorem hdX2_shipsWithoutMen : ah_d yX2_shipsWithoutMen 0 := by decide +kernel
theorem hdX10_isShelf : ah_d yX10_isShelf 1 := by decide +kernel
theorem hdX7_holdsNothing : ah_d yX7_holdsNothing 0 := by decide +kernel
theorem hdX7_holdsRow : ah_d yX7_holdsRow 0 := by decide +kernel
theorem hdX10_refusalOfRow : ah_d yX10_refusalOfRow 1 := by decide +kernel
theorem hdX10_refusalOfBytes : ah_d yX10_refusalOfBytes 1 := by decide +kernel
theorem hdX7_meetings : ah_d yX7_meetings 0 := by decide +kernel
theorem hdX7_one : ah_d yX7_one 1 := by decide +kernel
theorem hdX7_other : ah_d yX7_other 1 := by decide +kernel
theorem hdX10_refusalOfMeetings : ah_d yX10_refusalOfMeetings 1 := by decide +kernel
theorem hdX10_signsBehind : ah_d yX10_signsBehind 1 := by decide +kernel
theorem hdX10_digit : ah_d yX10_digit 2 := by decide +kernel
theorem hdX10_has : ah_d yX10_has 2 := by decide +kernel
theorem hdX2_astray : ah_d yX2_astray 1 := by decide +kernel
theorem hdX4_init : ah_d yX4_init 1 := by decide +kernel
theorem hdX6_init : ah_d yX6_init 2 := by decide +kernel
theorem hdX9_init : ah_d yX9_init 2 := by decide +kernel
theorem hdX11_isIn : ah_d yX11_isIn 3 := by decide +kernel
theorem hdX11_common : ah_d yX11_common 2 := by decide +kernel
theorem hdX11_get : ah_d yX11_get 2 := by decide +kernel
theorem hdX11_likeTongue : ah_d yX11_likeTongue 2 := by decide +kernel
theorem hdX11_aboard : ah_d yX11_aboard 1 := by decide +kernel
theorem hdX11_figure : ah_d yX11_figure 1 := by decide +kernel
theorem hdX11_kind : ah_d yX11_kind 1 := by decide +kernel
theorem hdX11_bits : ah_d yX11_bits 1 := by decide +kernel
theorem hdX11_at : ah_d yX11_at 2 := by decide +kernel
theorem hdX11_bySince : ah_d yX11_bySince 2 := by decide +kernel
theorem hdX11_notOf : ah_d yX11_notOf 2 := by decide +kernel
theorem hdX11_bestOf : ah_d yX11_bestOf 2 := by decide +kernel
theorem hdX11_puts : ah_d yX11_puts 3 := by decide +kernel
theorem hdX11_isShip : ah_d yX11_isShip 1 := by decide +kernel
theorem hdX11_gives : ah_d yX11_gives 1 := by decide +kernel
theorem hdX11_sails : ah_d yX11_sails 1 := by decide +kernel
theorem hdX11_here : ah_d yX11_here 0 := by decide +kernel
theorem hdX11_readsDigits : ah_d yX11_readsDigits 1 := by decide +kernel
theorem hdX11_mayMeet : ah_d yX11_mayMeet 2 := by decide +kernel
theorem hdX11_meets : ah_d yX11_meets 2 := by decide +kernel
theorem hdX11_isShelf : ah_d yX11_isShelf 1 := by decide +kernel
theorem hdX11_wrongRow : ah_d yX11_wrongRow 2 := by decide +kernel
theorem hdX11_readsStatement : ah_d yX11_readsStatement 0 := by decide +kernel
theorem hdX11_copies : ah_d yX11_copies 2 := by decide +kernel
theorem hdX11_comes : ah_d yX11_comes 1 := by decide +kernel
theorem hdX11_isMan : ah_d yX11_isMan 1 := by decide +kernel
theorem hdX11_wrongKept : ah_d yX11_wrongKept 1 := by decide +kernel
theorem hdX11_first : ah_d yX11_first 2 := by decide +kernel
theorem hdX11_second : ah_d yX11_second 2 := by decide +kernel
theorem hdX11_begins : ah_d yX11_begins 0 := by decide +kernel
theorem hdX11_meetings : ah_d yX11_meetings 1 := by decide +kernel
theorem hdX11_ends : ah_d yX11_ends 0 := by decide +kernel
theorem hdX11_meetsTold : ah_d yX11_meetsTold 2 := by decide +kernel
theorem hdX11_wrongMeetings : ah_d yX11_wrongMeetings 1 := by decide +kernel
theorem hdX11_mayBe : ah_d yX11_mayBe 3 := by decide +kernel
theorem hdX11_keeps : ah_d yX11_keeps 1 := by decide +kernel
theorem hdX11_comesBy : ah_d yX11_comesBy 2 := by decide +kernel
theorem hdX11_back : ah_d yX11_back 1 := by decide +kernel
theorem hdX11_isWanted : ah_d yX11_isWanted 0 := by decide +kernel
theorem hdX11_fewestBy : ah_d yX11_fewestBy 1 := by decide +kernel
theorem hdX11_mixedNow : ah_d yX11_mixedNow 0 := by decide +kernel
theorem hdX11_spreads : ah_d yX11_spreads 1 := by decide +kernel
theorem hdX11_drawn : ah_d yX11_drawn 1 := by decide +kernel
theorem hdX11_wrongFour : ah_d yX11_wrongFour 2 := by decide +kernel
theorem hdX11_payBy : ah_d yX11_payBy 2 := by decide +kernel
theorem hdJ6_bitCount_0f7a4 : ah_d yJ6_bitCount_0f7a4 1 := by decide +kernel
theorem hdX2_acquaint : ah_d yX2_acquaint 1 := by decide +kernel
theorem hdX2_bring : ah_d yX2_bring 3 := by decide +kernel
theorem hdX3_wages : ah_d yX3_wages 0 := by decide +kernel
theorem hdX9_unwanted : ah_d yX9_unwanted 2 := by decide +kernel
theorem hdX10_faultOfForm : ah_d yX10_faultOfForm 1 := by decide +kernel
theorem hdX10_refusalOfCaptain : ah_d yX10_refusalOfCaptain 1 := by decide +kernel
theorem hdX10_refusalOfManAndMeetings : ah_d yX10_refusalOfManAndMeetings 2 := by decide +kernel
theorem hdX10_tellsOfEachMan : ah_d yX10_tellsOfEachMan 1 := by decide +kernel
theorem hdX2_withShipmates : ah_d yX2_withShipmates 1 := by decide +kernel
theorem hdX10_isKindAndFigure : ah_d yX10_isKindAndFigure 2 := by decide +kernel
theorem hdX10_nextSeed : ah_d yX10_nextSeed 1 := by decide +kernel
theorem hdX10_drawBelow : ah_d yX10_drawBelow 2 := by decide +kernel
theorem hdX2_mostAboard : ah_d yX2_mostAboard 0 := by decide +kernel
theorem hdX7_holdRow : ah_d yX7_holdRow 2 := by decide +kernel
theorem hdX7_write : ah_d yX7_write 2 := by decide +kernel
theorem hdX7_hasStretch : ah_d yX7_hasStretch 2 := by decide +kernel
theorem hdX2_takesMan : ah_d yX2_takesMan 3 := by decide +kernel
theorem hdX2_isAlone : ah_d yX2_isAlone 1 := by decide +kernel
theorem hdX0_init : ah_d yX0_init 1 := by decide +kernel
theorem hdX8_init : ah_d yX8_init 1 := by decide +kernel
theorem hdX3_init : ah_d yX3_init 1 := by decide +kernel
theorem hdX2_speakers : ah_d yX2_speakers 2 := by decide +kernel
theorem hdX10_choicesBehind : ah_d yX10_choicesBehind 3 := by decide +kernel
theorem hdX10_captainOf : ah_d yX10_captainOf 2 := by decide +kernel
theorem hdX2_setAllCaptains : ah_d yX2_setAllCaptains 1 := by decide +kernel
theorem hdX7_holdCaptain : ah_d yX7_holdCaptain 1 := by decide +kernel
theorem hdX2_takesShip : ah_d yX2_takesShip 1 := by decide +kernel
theorem hdX10_spreadChances : ah_d yX10_spreadChances 2 := by decide +kernel
theorem hdX10_fillChances : ah_d yX10_fillChances 2 := by decide +kernel
theorem hdX10_commonDivisor : ah_d yX10_commonDivisor 2 := by decide +kernel
theorem hdX2_giver : ah_d yX2_giver 1 := by decide +kernel
theorem hdX2_exchange : ah_d yX2_exchange 4 := by decide +kernel
theorem hdX2_holdMeeting : ah_d yX2_holdMeeting 2 := by decide +kernel
theorem hdX2_takeBack : ah_d yX2_takeBack 6 := by decide +kernel
theorem hdX10_nameOfMeeting : ah_d yX10_nameOfMeeting 2 := by decide +kernel
theorem hdX2_holdTold : ah_d yX2_holdTold 2 := by decide +kernel
theorem hdX2_fillGivers : ah_d yX2_fillGivers 1 := by decide +kernel
theorem hdX10_firstOfWay : ah_d yX10_firstOfWay 4 := by decide +kernel
theorem hdX2_lastMeeting : ah_d yX2_lastMeeting 1 := by decide +kernel
theorem hdX10_isCarriedOut : ah_d yX10_isCarriedOut 3 := by decide +kernel
theorem hdX10_faultOfGifts : ah_d yX10_faultOfGifts 3 := by decide +kernel
theorem hdX10_fewestMeetings : ah_d yX10_fewestMeetings 1 := by decide +kernel
