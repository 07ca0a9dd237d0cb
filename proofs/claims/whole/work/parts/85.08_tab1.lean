/-! ===== the same in the world of the class alone: 08.tab1 ===== -/
theorem kt_0_0_k {a : Nat} (h : shK_k a = 10 + 0) : shK_k (shR a 0) = 0 := kt_of_k 0 0 (0) (by decide +kernel) h
theorem kt_2_4_k {a : Nat} (h : shK_k a = 10 + 2) : shK_k (shR a 4) = 10 + 6 := kt_of_k 2 4 (10 + 6) (by decide +kernel) h
theorem kt_2_5_k {a : Nat} (h : shK_k a = 10 + 2) : shK_k (shR a 5) = 10 + 6 := kt_of_k 2 5 (10 + 6) (by decide +kernel) h
theorem kt_2_6_k {a : Nat} (h : shK_k a = 10 + 2) : shK_k (shR a 6) = 10 + 6 := kt_of_k 2 6 (10 + 6) (by decide +kernel) h
theorem kt_2_7_k {a : Nat} (h : shK_k a = 10 + 2) : shK_k (shR a 7) = 10 + 6 := kt_of_k 2 7 (10 + 6) (by decide +kernel) h
theorem kt_2_8_k {a : Nat} (h : shK_k a = 10 + 2) : shK_k (shR a 8) = 10 + 6 := kt_of_k 2 8 (10 + 6) (by decide +kernel) h
theorem kt_2_9_k {a : Nat} (h : shK_k a = 10 + 2) : shK_k (shR a 9) = 10 + 3 := kt_of_k 2 9 (10 + 3) (by decide +kernel) h
theorem kt_3_0_k {a : Nat} (h : shK_k a = 10 + 3) : shK_k (shR a 0) = 10 + 6 := kt_of_k 3 0 (10 + 6) (by decide +kernel) h
theorem kt_3_1_k {a : Nat} (h : shK_k a = 10 + 3) : shK_k (shR a 1) = 10 + 6 := kt_of_k 3 1 (10 + 6) (by decide +kernel) h
theorem kt_3_2_k {a : Nat} (h : shK_k a = 10 + 3) : shK_k (shR a 2) = 10 + 6 := kt_of_k 3 2 (10 + 6) (by decide +kernel) h
theorem kt_5_0_k {a : Nat} (h : shK_k a = 10 + 5) : shK_k (shR a 0) = 10 + 7 := kt_of_k 5 0 (10 + 7) (by decide +kernel) h
theorem kt_5_1_k {a : Nat} (h : shK_k a = 10 + 5) : shK_k (shR a 1) = 10 + 2 := kt_of_k 5 1 (10 + 2) (by decide +kernel) h
theorem kt_6_2_k {a : Nat} (h : shK_k a = 10 + 6) : shK_k (shR a 2) = 0 := kt_of_k 6 2 (0) (by decide +kernel) h
theorem kt_7_0_k {a : Nat} (h : shK_k a = 10 + 7) : shK_k (shR a 0) = 10 + 0 := kt_of_k 7 0 (10 + 0) (by decide +kernel) h
