/-! ===== the law's methods: tables ===== -/
theorem fc10 : fcl 10 RL TL 34 := ⟨rfl, gw_ws [579, 581, 583, 585, 587, 589, 591, 593, 595, 597, 599, 601, 603, 605, 607, 609, 611, 613, 615, 617, 619, 621, 623, 625, 627, 629, 631, 633, 635, 637, 639, 641, 643, 645] (by decide +kernel) (by decide +kernel), nmL, rfl⟩
theorem kt_10_19 {a : Nat} (h : shK a = 10 + 10) : shK (shR a 19) = 5 := kt_of 10 19 (5) (by decide +kernel) h
theorem kt_10_18 {a : Nat} (h : shK a = 10 + 10) : shK (shR a 18) = 5 := kt_of 10 18 (5) (by decide +kernel) h
theorem kt_10_17 {a : Nat} (h : shK a = 10 + 10) : shK (shR a 17) = 7 := kt_of 10 17 (7) (by decide +kernel) h
theorem kt_10_16 {a : Nat} (h : shK a = 10 + 10) : shK (shR a 16) = 7 := kt_of 10 16 (7) (by decide +kernel) h
theorem kt_10_15 {a : Nat} (h : shK a = 10 + 10) : shK (shR a 15) = 7 := kt_of 10 15 (7) (by decide +kernel) h
theorem kt_10_14 {a : Nat} (h : shK a = 10 + 10) : shK (shR a 14) = 7 := kt_of 10 14 (7) (by decide +kernel) h
theorem kt_10_13 {a : Nat} (h : shK a = 10 + 10) : shK (shR a 13) = 7 := kt_of 10 13 (7) (by decide +kernel) h
theorem kt_10_12 {a : Nat} (h : shK a = 10 + 10) : shK (shR a 12) = 7 := kt_of 10 12 (7) (by decide +kernel) h
theorem kt_10_11 {a : Nat} (h : shK a = 10 + 10) : shK (shR a 11) = 7 := kt_of 10 11 (7) (by decide +kernel) h
theorem kt_10_10 {a : Nat} (h : shK a = 10 + 10) : shK (shR a 10) = 7 := kt_of 10 10 (7) (by decide +kernel) h
theorem kt_10_9 {a : Nat} (h : shK a = 10 + 10) : shK (shR a 9) = 7 := kt_of 10 9 (7) (by decide +kernel) h
theorem kt_10_8 {a : Nat} (h : shK a = 10 + 10) : shK (shR a 8) = 7 := kt_of 10 8 (7) (by decide +kernel) h
theorem kt_10_7 {a : Nat} (h : shK a = 10 + 10) : shK (shR a 7) = 4 := kt_of 10 7 (4) (by decide +kernel) h
theorem kt_10_6 {a : Nat} (h : shK a = 10 + 10) : shK (shR a 6) = 4 := kt_of 10 6 (4) (by decide +kernel) h
theorem kt_10_5 {a : Nat} (h : shK a = 10 + 10) : shK (shR a 5) = 7 := kt_of 10 5 (7) (by decide +kernel) h
theorem kt_10_4 {a : Nat} (h : shK a = 10 + 10) : shK (shR a 4) = 7 := kt_of 10 4 (7) (by decide +kernel) h
theorem kt_10_3 {a : Nat} (h : shK a = 10 + 10) : shK (shR a 3) = 7 := kt_of 10 3 (7) (by decide +kernel) h
theorem kt_10_2 {a : Nat} (h : shK a = 10 + 10) : shK (shR a 2) = 7 := kt_of 10 2 (7) (by decide +kernel) h
theorem kt_10_1 {a : Nat} (h : shK a = 10 + 10) : shK (shR a 1) = 7 := kt_of 10 1 (7) (by decide +kernel) h
theorem kt_10_0 {a : Nat} (h : shK a = 10 + 10) : shK (shR a 0) = 7 := kt_of 10 0 (7) (by decide +kernel) h
theorem sm_L_bits : SMet yL_bits cL_bits 3 (some .int) 3 := ⟨g652, g26, g653, ⟨by decide +kernel, by decide +kernel⟩, by decide +kernel, Nat.le_of_ble_eq_true rfl⟩
theorem vm_L_reckon : VMet yL_reckon RL cL_reckon 4 none 0 := ⟨g679, g10, g26, g680, ⟨by decide +kernel, by decide +kernel⟩, by decide +kernel, Nat.le_of_ble_eq_true rfl⟩
theorem vm_L_next : VMet yL_next RL cL_next 4 (some .int) 2 := ⟨g907, g22, g26, g908, ⟨by decide +kernel, by decide +kernel⟩, by decide +kernel, Nat.le_of_ble_eq_true rfl⟩
theorem vm_L_bars : VMet yL_bars RL cL_bars 2 (some .int) 1 := ⟨g911, g23, g26, g912, ⟨by decide +kernel, by decide +kernel⟩, by decide +kernel, Nat.le_of_ble_eq_true rfl⟩
theorem vm_L_isRight : VMet yL_isRight RL cL_isRight 3 (some .boolean) 1 := ⟨g899, g20, g26, g900, ⟨by decide +kernel, by decide +kernel⟩, by decide +kernel, Nat.le_of_ble_eq_true rfl⟩
theorem vm_L_resets : VMet yL_resets RL cL_resets 2 none 1 := ⟨g858, g17, g26, g859, ⟨by decide +kernel, by decide +kernel⟩, by decide +kernel, Nat.le_of_ble_eq_true rfl⟩
theorem vm_L_first : VMet yL_first RL cL_first 4 (some .int) 1 := ⟨g903, g21, g26, g904, ⟨by decide +kernel, by decide +kernel⟩, by decide +kernel, Nat.le_of_ble_eq_true rfl⟩
theorem vm_L_sends : VMet yL_sends RL cL_sends 6 none 5 := ⟨g854, g16, g26, g855, ⟨by decide +kernel, by decide +kernel⟩, by decide +kernel, Nat.le_of_ble_eq_true rfl⟩
theorem vm_L_lands : VMet yL_lands RL cL_lands 6 none 1 := ⟨g892, g19, g26, g893, ⟨by decide +kernel, by decide +kernel⟩, by decide +kernel, Nat.le_of_ble_eq_true rfl⟩
theorem vm_L_ticks : VMet yL_ticks RL cL_ticks 7 none 0 := ⟨g888, g18, g26, g889, ⟨by decide +kernel, by decide +kernel⟩, by decide +kernel, Nat.le_of_ble_eq_true rfl⟩
theorem vm_L_acts : VMet yL_acts RL cL_acts 9 (some .boolean) 2 := ⟨g684, g11, g26, g685, ⟨by decide +kernel, by decide +kernel⟩, by decide +kernel, Nat.le_of_ble_eq_true rfl⟩
theorem vm_L_isLike : VMet yL_isLike RL cL_isLike 4 (some .boolean) 1 := ⟨g1002, g24, g26, g1003, ⟨by decide +kernel, by decide +kernel⟩, by decide +kernel, Nat.le_of_ble_eq_true rfl⟩
