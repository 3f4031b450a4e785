section
theorem k_b_10 : (Int8.ofInt 10).toInt32 = 10 := by decide
theorem k_b_100 : (Int8.ofInt 100).toInt32 = 100 := by decide
theorem k_b_104 : (Int8.ofInt 104).toInt32 = 104 := by decide
theorem k_b_11 : (Int8.ofInt 11).toInt32 = 11 := by decide
theorem k_b_115 : (Int8.ofInt 115).toInt32 = 115 := by decide
theorem k_b_116 : (Int8.ofInt 116).toInt32 = 116 := by decide
theorem k_b_12 : (Int8.ofInt 12).toInt32 = 12 := by decide
theorem k_b_122 : (Int8.ofInt 122).toInt32 = 122 := by decide
theorem k_b_124 : (Int8.ofInt 124).toInt32 = 124 := by decide
theorem k_b_13 : (Int8.ofInt 13).toInt32 = 13 := by decide
theorem k_b_15 : (Int8.ofInt 15).toInt32 = 15 := by decide
theorem k_b_16 : (Int8.ofInt 16).toInt32 = 16 := by decide
theorem k_b_19 : (Int8.ofInt 19).toInt32 = 19 := by decide
theorem k_b_20 : (Int8.ofInt 20).toInt32 = 20 := by decide
theorem k_b_21 : (Int8.ofInt 21).toInt32 = 21 := by decide
theorem k_b_22 : (Int8.ofInt 22).toInt32 = 22 := by decide
theorem k_b_23 : (Int8.ofInt 23).toInt32 = 23 := by decide
theorem k_b_24 : (Int8.ofInt 24).toInt32 = 24 := by decide
theorem k_b_30 : (Int8.ofInt 30).toInt32 = 30 := by decide
theorem k_b_32 : (Int8.ofInt 32).toInt32 = 32 := by decide
theorem k_b_33 : (Int8.ofInt 33).toInt32 = 33 := by decide
theorem k_b_37 : (Int8.ofInt 37).toInt32 = 37 := by decide
theorem k_b_38 : (Int8.ofInt 38).toInt32 = 38 := by decide
theorem k_b_40 : (Int8.ofInt 40).toInt32 = 40 := by decide
theorem k_b_41 : (Int8.ofInt 41).toInt32 = 41 := by decide
theorem k_b_42 : (Int8.ofInt 42).toInt32 = 42 := by decide
theorem k_b_43 : (Int8.ofInt 43).toInt32 = 43 := by decide
theorem k_b_45 : (Int8.ofInt 45).toInt32 = 45 := by decide
theorem k_b_47 : (Int8.ofInt 47).toInt32 = 47 := by decide
theorem k_b_48 : (Int8.ofInt 48).toInt32 = 48 := by decide
theorem k_b_57 : (Int8.ofInt 57).toInt32 = 57 := by decide
theorem k_b_59 : (Int8.ofInt 59).toInt32 = 59 := by decide
theorem k_b_6 : (Int8.ofInt 6).toInt32 = 6 := by decide
theorem k_b_60 : (Int8.ofInt 60).toInt32 = 60 := by decide
theorem k_b_61 : (Int8.ofInt 61).toInt32 = 61 := by decide
theorem k_b_62 : (Int8.ofInt 62).toInt32 = 62 := by decide
theorem k_b_63 : (Int8.ofInt 63).toInt32 = 63 := by decide
theorem k_b_7 : (Int8.ofInt 7).toInt32 = 7 := by decide
theorem k_b_71 : (Int8.ofInt 71).toInt32 = 71 := by decide
theorem k_b_8 : (Int8.ofInt 8).toInt32 = 8 := by decide
theorem k_b_9 : (Int8.ofInt 9).toInt32 = 9 := by decide
theorem k_b_97 : (Int8.ofInt 97).toInt32 = 97 := by decide
theorem k_b_99 : (Int8.ofInt 99).toInt32 = 99 := by decide
theorem k_b_m100 : (Int8.ofInt (-100)).toInt32 = (-100) := by decide
theorem k_b_m2 : (Int8.ofInt (-2)).toInt32 = (-2) := by decide
theorem k_c_0 : Int32.ofInt 0 = 0 := by decide
theorem k_c_1 : Int32.ofInt 1 = 1 := by decide
theorem k_c_2 : Int32.ofInt 2 = 2 := by decide
theorem k_c_3 : Int32.ofInt 3 = 3 := by decide
theorem k_c_4 : Int32.ofInt 4 = 4 := by decide
theorem k_c_5 : Int32.ofInt 5 = 5 := by decide
theorem k_c_m1 : Int32.ofInt (-1) = (-1) := by decide
theorem k_inc_1 (x : Int32) : x + Int32.ofInt 1 = x + 1 := congrArg (x + ·) (by decide)
theorem k_inc_m1 (x : Int32) : x + Int32.ofInt (-1) = x + (-1) := congrArg (x + ·) (by decide)
theorem k_inc_m8 (x : Int32) : x + Int32.ofInt (-8) = x + (-8) := congrArg (x + ·) (by decide)
theorem k_s_1000 : (Int16.ofInt 1000).toInt32 = 1000 := by decide
theorem k_s_1023 : (Int16.ofInt 1023).toInt32 = 1023 := by decide
theorem k_s_1024 : (Int16.ofInt 1024).toInt32 = 1024 := by decide
theorem k_s_137 : (Int16.ofInt 137).toInt32 = 137 := by decide
theorem k_s_1600 : (Int16.ofInt 1600).toInt32 = 1600 := by decide
theorem k_s_255 : (Int16.ofInt 255).toInt32 = 255 := by decide
theorem k_s_920 : (Int16.ofInt 920).toInt32 = 920 := by decide
theorem k_s_936 : (Int16.ofInt 936).toInt32 = 936 := by decide
theorem k_s_999 : (Int16.ofInt 999).toInt32 = 999 := by decide
theorem pd_C_Z : (parseMethodDescriptor "(C)Z").map (fun d => d.parameters.length) = some 1 := by decide +kernel
theorem pd_IIIII_I : (parseMethodDescriptor "(IIIII)I").map (fun d => d.parameters.length) = some 5 := by decide +kernel
theorem pd_IIII_I : (parseMethodDescriptor "(IIII)I").map (fun d => d.parameters.length) = some 4 := by decide +kernel
theorem pd_III_I : (parseMethodDescriptor "(III)I").map (fun d => d.parameters.length) = some 3 := by decide +kernel
theorem pd_III_J : (parseMethodDescriptor "(III)J").map (fun d => d.parameters.length) = some 3 := by decide +kernel
theorem pd_III_V : (parseMethodDescriptor "(III)V").map (fun d => d.parameters.length) = some 3 := by decide +kernel
theorem pd_III_Z : (parseMethodDescriptor "(III)Z").map (fun d => d.parameters.length) = some 3 := by decide +kernel
theorem pd_IIJ_I : (parseMethodDescriptor "(IIJ)I").map (fun d => d.parameters.length) = some 3 := by decide +kernel
theorem pd_IIZ_I : (parseMethodDescriptor "(IIZ)I").map (fun d => d.parameters.length) = some 3 := by decide +kernel
theorem pd_II_I : (parseMethodDescriptor "(II)I").map (fun d => d.parameters.length) = some 2 := by decide +kernel
theorem pd_II_J : (parseMethodDescriptor "(II)J").map (fun d => d.parameters.length) = some 2 := by decide +kernel
theorem pd_II_V : (parseMethodDescriptor "(II)V").map (fun d => d.parameters.length) = some 2 := by decide +kernel
theorem pd_II_Z : (parseMethodDescriptor "(II)Z").map (fun d => d.parameters.length) = some 2 := by decide +kernel
theorem pd_I_I : (parseMethodDescriptor "(I)I").map (fun d => d.parameters.length) = some 1 := by decide +kernel
theorem pd_I_V : (parseMethodDescriptor "(I)V").map (fun d => d.parameters.length) = some 1 := by decide +kernel
theorem pd_I_Z : (parseMethodDescriptor "(I)Z").map (fun d => d.parameters.length) = some 1 := by decide +kernel
theorem pd_JIII_I : (parseMethodDescriptor "(JIII)I").map (fun d => d.parameters.length) = some 4 := by decide +kernel
theorem pd_JII_I : (parseMethodDescriptor "(JII)I").map (fun d => d.parameters.length) = some 3 := by decide +kernel
theorem pd_JJ_J : (parseMethodDescriptor "(JJ)J").map (fun d => d.parameters.length) = some 2 := by decide +kernel
theorem pd_J_I : (parseMethodDescriptor "(J)I").map (fun d => d.parameters.length) = some 1 := by decide +kernel
theorem pd_J_V : (parseMethodDescriptor "(J)V").map (fun d => d.parameters.length) = some 1 := by decide +kernel
theorem pd_J_Z : (parseMethodDescriptor "(J)Z").map (fun d => d.parameters.length) = some 1 := by decide +kernel
theorem pd_LOathButtonsRegiment_V : (parseMethodDescriptor "(LOathButtons$Regiment;)V").map (fun d => d.parameters.length) = some 1 := by decide +kernel
theorem pd_LOathButtonsWear_V : (parseMethodDescriptor "(LOathButtons$Wear;)V").map (fun d => d.parameters.length) = some 1 := by decide +kernel
theorem pd_Z_I : (parseMethodDescriptor "(Z)I").map (fun d => d.parameters.length) = some 1 := by decide +kernel
theorem pd__I : (parseMethodDescriptor "()I").map (fun d => d.parameters.length) = some 0 := by decide +kernel
theorem pd__V : (parseMethodDescriptor "()V").map (fun d => d.parameters.length) = some 0 := by decide +kernel
theorem pd__Z : (parseMethodDescriptor "()Z").map (fun d => d.parameters.length) = some 0 := by decide +kernel
theorem pd_aBI_V : (parseMethodDescriptor "([BI)V").map (fun d => d.parameters.length) = some 2 := by decide +kernel
theorem pd_aBI_Z : (parseMethodDescriptor "([BI)Z").map (fun d => d.parameters.length) = some 2 := by decide +kernel
theorem pd_aII_V : (parseMethodDescriptor "([II)V").map (fun d => d.parameters.length) = some 2 := by decide +kernel
theorem pd_aI_V : (parseMethodDescriptor "([I)V").map (fun d => d.parameters.length) = some 1 := by decide +kernel
theorem pd_aIaI_V : (parseMethodDescriptor "([I[I)V").map (fun d => d.parameters.length) = some 2 := by decide +kernel
theorem pd_aJI_I : (parseMethodDescriptor "([JI)I").map (fun d => d.parameters.length) = some 2 := by decide +kernel
theorem pd_aJI_Z : (parseMethodDescriptor "([JI)Z").map (fun d => d.parameters.length) = some 2 := by decide +kernel
theorem vi_0_32 : vp_in 0 32 := by unfold vp_in; decide +kernel
theorem vi_0_4 : vp_in 0 4 := by unfold vp_in; decide +kernel
theorem vi_0_64 : vp_in 0 64 := by unfold vp_in; decide +kernel
theorem vi_0_7 : vp_in 0 7 := by unfold vp_in; decide +kernel
theorem vi_1_4 : vp_in 1 4 := by unfold vp_in; decide +kernel
theorem vi_20_23 : vp_in 20 23 := by unfold vp_in; decide +kernel
theorem vi_20_24 : vp_in 20 24 := by unfold vp_in; decide +kernel
theorem vi_21_23 : vp_in 21 23 := by unfold vp_in; decide +kernel
theorem vi_21_24 : vp_in 21 24 := by unfold vp_in; decide +kernel
theorem vi_22_23 : vp_in 22 23 := by unfold vp_in; decide +kernel
theorem vi_22_24 : vp_in 22 24 := by unfold vp_in; decide +kernel
theorem vi_2_4 : vp_in 2 4 := by unfold vp_in; decide +kernel
theorem vi_3_4 : vp_in 3 4 := by unfold vp_in; decide +kernel
theorem sw_in_0_14 {x : Int32} (h : ¬ (x.toInt < 0 ∨ 14 < x.toInt)) : x = 0 ∨ x = 1 ∨ x = 2 ∨ x = 3 ∨ x = 4 ∨ x = 5 ∨ x = 6 ∨ x = 7 ∨ x = 8 ∨ x = 9 ∨ x = 10 ∨ x = 11 ∨ x = 12 ∨ x = 13 ∨ x = 14 := by
  rcases (show x.toInt = 0 ∨ x.toInt = 1 ∨ x.toInt = 2 ∨ x.toInt = 3 ∨ x.toInt = 4 ∨ x.toInt = 5 ∨ x.toInt = 6 ∨ x.toInt = 7 ∨ x.toInt = 8 ∨ x.toInt = 9 ∨ x.toInt = 10 ∨ x.toInt = 11 ∨ x.toInt = 12 ∨ x.toInt = 13 ∨ x.toInt = 14 by omega) with h | h | h | h | h | h | h | h | h | h | h | h | h | h | h
  · exact Or.inl (Int32.toInt_inj.mp (by rw [h]; decide))
  · exact Or.inr (Or.inl (Int32.toInt_inj.mp (by rw [h]; decide)))
  · exact Or.inr (Or.inr (Or.inl (Int32.toInt_inj.mp (by rw [h]; decide))))
  · exact Or.inr (Or.inr (Or.inr (Or.inl (Int32.toInt_inj.mp (by rw [h]; decide)))))
  · exact Or.inr (Or.inr (Or.inr (Or.inr (Or.inl (Int32.toInt_inj.mp (by rw [h]; decide))))))
  · exact Or.inr (Or.inr (Or.inr (Or.inr (Or.inr (Or.inl (Int32.toInt_inj.mp (by rw [h]; decide)))))))
  · exact Or.inr (Or.inr (Or.inr (Or.inr (Or.inr (Or.inr (Or.inl (Int32.toInt_inj.mp (by rw [h]; decide))))))))
  · exact Or.inr (Or.inr (Or.inr (Or.inr (Or.inr (Or.inr (Or.inr (Or.inl (Int32.toInt_inj.mp (by rw [h]; decide)))))))))
  · exact Or.inr (Or.inr (Or.inr (Or.inr (Or.inr (Or.inr (Or.inr (Or.inr (Or.inl (Int32.toInt_inj.mp (by rw [h]; decide))))))))))
  · exact Or.inr (Or.inr (Or.inr (Or.inr (Or.inr (Or.inr (Or.inr (Or.inr (Or.inr (Or.inl (Int32.toInt_inj.mp (by rw [h]; decide)))))))))))
  · exact Or.inr (Or.inr (Or.inr (Or.inr (Or.inr (Or.inr (Or.inr (Or.inr (Or.inr (Or.inr (Or.inl (Int32.toInt_inj.mp (by rw [h]; decide))))))))))))
  · exact Or.inr (Or.inr (Or.inr (Or.inr (Or.inr (Or.inr (Or.inr (Or.inr (Or.inr (Or.inr (Or.inr (Or.inl (Int32.toInt_inj.mp (by rw [h]; decide)))))))))))))
  · exact Or.inr (Or.inr (Or.inr (Or.inr (Or.inr (Or.inr (Or.inr (Or.inr (Or.inr (Or.inr (Or.inr (Or.inr (Or.inl (Int32.toInt_inj.mp (by rw [h]; decide))))))))))))))
  · exact Or.inr (Or.inr (Or.inr (Or.inr (Or.inr (Or.inr (Or.inr (Or.inr (Or.inr (Or.inr (Or.inr (Or.inr (Or.inr (Or.inl (Int32.toInt_inj.mp (by rw [h]; decide)))))))))))))))
  · exact Or.inr (Or.inr (Or.inr (Or.inr (Or.inr (Or.inr (Or.inr (Or.inr (Or.inr (Or.inr (Or.inr (Or.inr (Or.inr (Or.inr ((Int32.toInt_inj.mp (by rw [h]; decide))))))))))))))))
theorem sw_in_0_18 {x : Int32} (h : ¬ (x.toInt < 0 ∨ 18 < x.toInt)) : x = 0 ∨ x = 1 ∨ x = 2 ∨ x = 3 ∨ x = 4 ∨ x = 5 ∨ x = 6 ∨ x = 7 ∨ x = 8 ∨ x = 9 ∨ x = 10 ∨ x = 11 ∨ x = 12 ∨ x = 13 ∨ x = 14 ∨ x = 15 ∨ x = 16 ∨ x = 17 ∨ x = 18 := by
  rcases (show x.toInt = 0 ∨ x.toInt = 1 ∨ x.toInt = 2 ∨ x.toInt = 3 ∨ x.toInt = 4 ∨ x.toInt = 5 ∨ x.toInt = 6 ∨ x.toInt = 7 ∨ x.toInt = 8 ∨ x.toInt = 9 ∨ x.toInt = 10 ∨ x.toInt = 11 ∨ x.toInt = 12 ∨ x.toInt = 13 ∨ x.toInt = 14 ∨ x.toInt = 15 ∨ x.toInt = 16 ∨ x.toInt = 17 ∨ x.toInt = 18 by omega) with h | h | h | h | h | h | h | h | h | h | h | h | h | h | h | h | h | h | h
  · exact Or.inl (Int32.toInt_inj.mp (by rw [h]; decide))
  · exact Or.inr (Or.inl (Int32.toInt_inj.mp (by rw [h]; decide)))
  · exact Or.inr (Or.inr (Or.inl (Int32.toInt_inj.mp (by rw [h]; decide))))
  · exact Or.inr (Or.inr (Or.inr (Or.inl (Int32.toInt_inj.mp (by rw [h]; decide)))))
  · exact Or.inr (Or.inr (Or.inr (Or.inr (Or.inl (Int32.toInt_inj.mp (by rw [h]; decide))))))
  · exact Or.inr (Or.inr (Or.inr (Or.inr (Or.inr (Or.inl (Int32.toInt_inj.mp (by rw [h]; decide)))))))
  · exact Or.inr (Or.inr (Or.inr (Or.inr (Or.inr (Or.inr (Or.inl (Int32.toInt_inj.mp (by rw [h]; decide))))))))
  · exact Or.inr (Or.inr (Or.inr (Or.inr (Or.inr (Or.inr (Or.inr (Or.inl (Int32.toInt_inj.mp (by rw [h]; decide)))))))))
  · exact Or.inr (Or.inr (Or.inr (Or.inr (Or.inr (Or.inr (Or.inr (Or.inr (Or.inl (Int32.toInt_inj.mp (by rw [h]; decide))))))))))
  · exact Or.inr (Or.inr (Or.inr (Or.inr (Or.inr (Or.inr (Or.inr (Or.inr (Or.inr (Or.inl (Int32.toInt_inj.mp (by rw [h]; decide)))))))))))
  · exact Or.inr (Or.inr (Or.inr (Or.inr (Or.inr (Or.inr (Or.inr (Or.inr (Or.inr (Or.inr (Or.inl (Int32.toInt_inj.mp (by rw [h]; decide))))))))))))
  · exact Or.inr (Or.inr (Or.inr (Or.inr (Or.inr (Or.inr (Or.inr (Or.inr (Or.inr (Or.inr (Or.inr (Or.inl (Int32.toInt_inj.mp (by rw [h]; decide)))))))))))))
  · exact Or.inr (Or.inr (Or.inr (Or.inr (Or.inr (Or.inr (Or.inr (Or.inr (Or.inr (Or.inr (Or.inr (Or.inr (Or.inl (Int32.toInt_inj.mp (by rw [h]; decide))))))))))))))
  · exact Or.inr (Or.inr (Or.inr (Or.inr (Or.inr (Or.inr (Or.inr (Or.inr (Or.inr (Or.inr (Or.inr (Or.inr (Or.inr (Or.inl (Int32.toInt_inj.mp (by rw [h]; decide)))))))))))))))
  · exact Or.inr (Or.inr (Or.inr (Or.inr (Or.inr (Or.inr (Or.inr (Or.inr (Or.inr (Or.inr (Or.inr (Or.inr (Or.inr (Or.inr (Or.inl (Int32.toInt_inj.mp (by rw [h]; decide))))))))))))))))
  · exact Or.inr (Or.inr (Or.inr (Or.inr (Or.inr (Or.inr (Or.inr (Or.inr (Or.inr (Or.inr (Or.inr (Or.inr (Or.inr (Or.inr (Or.inr (Or.inl (Int32.toInt_inj.mp (by rw [h]; decide)))))))))))))))))
  · exact Or.inr (Or.inr (Or.inr (Or.inr (Or.inr (Or.inr (Or.inr (Or.inr (Or.inr (Or.inr (Or.inr (Or.inr (Or.inr (Or.inr (Or.inr (Or.inr (Or.inl (Int32.toInt_inj.mp (by rw [h]; decide))))))))))))))))))
  · exact Or.inr (Or.inr (Or.inr (Or.inr (Or.inr (Or.inr (Or.inr (Or.inr (Or.inr (Or.inr (Or.inr (Or.inr (Or.inr (Or.inr (Or.inr (Or.inr (Or.inr (Or.inl (Int32.toInt_inj.mp (by rw [h]; decide)))))))))))))))))))
  · exact Or.inr (Or.inr (Or.inr (Or.inr (Or.inr (Or.inr (Or.inr (Or.inr (Or.inr (Or.inr (Or.inr (Or.inr (Or.inr (Or.inr (Or.inr (Or.inr (Or.inr (Or.inr ((Int32.toInt_inj.mp (by rw [h]; decide))))))))))))))))))))
theorem sw_in_0_7 {x : Int32} (h : ¬ (x.toInt < 0 ∨ 7 < x.toInt)) : x = 0 ∨ x = 1 ∨ x = 2 ∨ x = 3 ∨ x = 4 ∨ x = 5 ∨ x = 6 ∨ x = 7 := by
  rcases (show x.toInt = 0 ∨ x.toInt = 1 ∨ x.toInt = 2 ∨ x.toInt = 3 ∨ x.toInt = 4 ∨ x.toInt = 5 ∨ x.toInt = 6 ∨ x.toInt = 7 by omega) with h | h | h | h | h | h | h | h
  · exact Or.inl (Int32.toInt_inj.mp (by rw [h]; decide))
  · exact Or.inr (Or.inl (Int32.toInt_inj.mp (by rw [h]; decide)))
  · exact Or.inr (Or.inr (Or.inl (Int32.toInt_inj.mp (by rw [h]; decide))))
  · exact Or.inr (Or.inr (Or.inr (Or.inl (Int32.toInt_inj.mp (by rw [h]; decide)))))
  · exact Or.inr (Or.inr (Or.inr (Or.inr (Or.inl (Int32.toInt_inj.mp (by rw [h]; decide))))))
  · exact Or.inr (Or.inr (Or.inr (Or.inr (Or.inr (Or.inl (Int32.toInt_inj.mp (by rw [h]; decide)))))))
  · exact Or.inr (Or.inr (Or.inr (Or.inr (Or.inr (Or.inr (Or.inl (Int32.toInt_inj.mp (by rw [h]; decide))))))))
  · exact Or.inr (Or.inr (Or.inr (Or.inr (Or.inr (Or.inr (Or.inr ((Int32.toInt_inj.mp (by rw [h]; decide)))))))))
theorem sw_in_37_62 {x : Int32} (h : ¬ (x.toInt < 37 ∨ 62 < x.toInt)) : x = 37 ∨ x = 38 ∨ x = 39 ∨ x = 40 ∨ x = 41 ∨ x = 42 ∨ x = 43 ∨ x = 44 ∨ x = 45 ∨ x = 46 ∨ x = 47 ∨ x = 48 ∨ x = 49 ∨ x = 50 ∨ x = 51 ∨ x = 52 ∨ x = 53 ∨ x = 54 ∨ x = 55 ∨ x = 56 ∨ x = 57 ∨ x = 58 ∨ x = 59 ∨ x = 60 ∨ x = 61 ∨ x = 62 := by
  rcases (show x.toInt = 37 ∨ x.toInt = 38 ∨ x.toInt = 39 ∨ x.toInt = 40 ∨ x.toInt = 41 ∨ x.toInt = 42 ∨ x.toInt = 43 ∨ x.toInt = 44 ∨ x.toInt = 45 ∨ x.toInt = 46 ∨ x.toInt = 47 ∨ x.toInt = 48 ∨ x.toInt = 49 ∨ x.toInt = 50 ∨ x.toInt = 51 ∨ x.toInt = 52 ∨ x.toInt = 53 ∨ x.toInt = 54 ∨ x.toInt = 55 ∨ x.toInt = 56 ∨ x.toInt = 57 ∨ x.toInt = 58 ∨ x.toInt = 59 ∨ x.toInt = 60 ∨ x.toInt = 61 ∨ x.toInt = 62 by omega) with h | h | h | h | h | h | h | h | h | h | h | h | h | h | h | h | h | h | h | h | h | h | h | h | h | h
  · exact Or.inl (Int32.toInt_inj.mp (by rw [h]; decide))
  · exact Or.inr (Or.inl (Int32.toInt_inj.mp (by rw [h]; decide)))
  · exact Or.inr (Or.inr (Or.inl (Int32.toInt_inj.mp (by rw [h]; decide))))
  · exact Or.inr (Or.inr (Or.inr (Or.inl (Int32.toInt_inj.mp (by rw [h]; decide)))))
  · exact Or.inr (Or.inr (Or.inr (Or.inr (Or.inl (Int32.toInt_inj.mp (by rw [h]; decide))))))
  · exact Or.inr (Or.inr (Or.inr (Or.inr (Or.inr (Or.inl (Int32.toInt_inj.mp (by rw [h]; decide)))))))
  · exact Or.inr (Or.inr (Or.inr (Or.inr (Or.inr (Or.inr (Or.inl (Int32.toInt_inj.mp (by rw [h]; decide))))))))
  · exact Or.inr (Or.inr (Or.inr (Or.inr (Or.inr (Or.inr (Or.inr (Or.inl (Int32.toInt_inj.mp (by rw [h]; decide)))))))))
  · exact Or.inr (Or.inr (Or.inr (Or.inr (Or.inr (Or.inr (Or.inr (Or.inr (Or.inl (Int32.toInt_inj.mp (by rw [h]; decide))))))))))
  · exact Or.inr (Or.inr (Or.inr (Or.inr (Or.inr (Or.inr (Or.inr (Or.inr (Or.inr (Or.inl (Int32.toInt_inj.mp (by rw [h]; decide)))))))))))
  · exact Or.inr (Or.inr (Or.inr (Or.inr (Or.inr (Or.inr (Or.inr (Or.inr (Or.inr (Or.inr (Or.inl (Int32.toInt_inj.mp (by rw [h]; decide))))))))))))
  · exact Or.inr (Or.inr (Or.inr (Or.inr (Or.inr (Or.inr (Or.inr (Or.inr (Or.inr (Or.inr (Or.inr (Or.inl (Int32.toInt_inj.mp (by rw [h]; decide)))))))))))))
  · exact Or.inr (Or.inr (Or.inr (Or.inr (Or.inr (Or.inr (Or.inr (Or.inr (Or.inr (Or.inr (Or.inr (Or.inr (Or.inl (Int32.toInt_inj.mp (by rw [h]; decide))))))))))))))
  · exact Or.inr (Or.inr (Or.inr (Or.inr (Or.inr (Or.inr (Or.inr (Or.inr (Or.inr (Or.inr (Or.inr (Or.inr (Or.inr (Or.inl (Int32.toInt_inj.mp (by rw [h]; decide)))))))))))))))
  · exact Or.inr (Or.inr (Or.inr (Or.inr (Or.inr (Or.inr (Or.inr (Or.inr (Or.inr (Or.inr (Or.inr (Or.inr (Or.inr (Or.inr (Or.inl (Int32.toInt_inj.mp (by rw [h]; decide))))))))))))))))
  · exact Or.inr (Or.inr (Or.inr (Or.inr (Or.inr (Or.inr (Or.inr (Or.inr (Or.inr (Or.inr (Or.inr (Or.inr (Or.inr (Or.inr (Or.inr (Or.inl (Int32.toInt_inj.mp (by rw [h]; decide)))))))))))))))))
  · exact Or.inr (Or.inr (Or.inr (Or.inr (Or.inr (Or.inr (Or.inr (Or.inr (Or.inr (Or.inr (Or.inr (Or.inr (Or.inr (Or.inr (Or.inr (Or.inr (Or.inl (Int32.toInt_inj.mp (by rw [h]; decide))))))))))))))))))
  · exact Or.inr (Or.inr (Or.inr (Or.inr (Or.inr (Or.inr (Or.inr (Or.inr (Or.inr (Or.inr (Or.inr (Or.inr (Or.inr (Or.inr (Or.inr (Or.inr (Or.inr (Or.inl (Int32.toInt_inj.mp (by rw [h]; decide)))))))))))))))))))
  · exact Or.inr (Or.inr (Or.inr (Or.inr (Or.inr (Or.inr (Or.inr (Or.inr (Or.inr (Or.inr (Or.inr (Or.inr (Or.inr (Or.inr (Or.inr (Or.inr (Or.inr (Or.inr (Or.inl (Int32.toInt_inj.mp (by rw [h]; decide))))))))))))))))))))
  · exact Or.inr (Or.inr (Or.inr (Or.inr (Or.inr (Or.inr (Or.inr (Or.inr (Or.inr (Or.inr (Or.inr (Or.inr (Or.inr (Or.inr (Or.inr (Or.inr (Or.inr (Or.inr (Or.inr (Or.inl (Int32.toInt_inj.mp (by rw [h]; decide)))))))))))))))))))))
  · exact Or.inr (Or.inr (Or.inr (Or.inr (Or.inr (Or.inr (Or.inr (Or.inr (Or.inr (Or.inr (Or.inr (Or.inr (Or.inr (Or.inr (Or.inr (Or.inr (Or.inr (Or.inr (Or.inr (Or.inr (Or.inl (Int32.toInt_inj.mp (by rw [h]; decide))))))))))))))))))))))
  · exact Or.inr (Or.inr (Or.inr (Or.inr (Or.inr (Or.inr (Or.inr (Or.inr (Or.inr (Or.inr (Or.inr (Or.inr (Or.inr (Or.inr (Or.inr (Or.inr (Or.inr (Or.inr (Or.inr (Or.inr (Or.inr (Or.inl (Int32.toInt_inj.mp (by rw [h]; decide)))))))))))))))))))))))
  · exact Or.inr (Or.inr (Or.inr (Or.inr (Or.inr (Or.inr (Or.inr (Or.inr (Or.inr (Or.inr (Or.inr (Or.inr (Or.inr (Or.inr (Or.inr (Or.inr (Or.inr (Or.inr (Or.inr (Or.inr (Or.inr (Or.inr (Or.inl (Int32.toInt_inj.mp (by rw [h]; decide))))))))))))))))))))))))
  · exact Or.inr (Or.inr (Or.inr (Or.inr (Or.inr (Or.inr (Or.inr (Or.inr (Or.inr (Or.inr (Or.inr (Or.inr (Or.inr (Or.inr (Or.inr (Or.inr (Or.inr (Or.inr (Or.inr (Or.inr (Or.inr (Or.inr (Or.inr (Or.inl (Int32.toInt_inj.mp (by rw [h]; decide)))))))))))))))))))))))))
  · exact Or.inr (Or.inr (Or.inr (Or.inr (Or.inr (Or.inr (Or.inr (Or.inr (Or.inr (Or.inr (Or.inr (Or.inr (Or.inr (Or.inr (Or.inr (Or.inr (Or.inr (Or.inr (Or.inr (Or.inr (Or.inr (Or.inr (Or.inr (Or.inr (Or.inl (Int32.toInt_inj.mp (by rw [h]; decide))))))))))))))))))))))))))
  · exact Or.inr (Or.inr (Or.inr (Or.inr (Or.inr (Or.inr (Or.inr (Or.inr (Or.inr (Or.inr (Or.inr (Or.inr (Or.inr (Or.inr (Or.inr (Or.inr (Or.inr (Or.inr (Or.inr (Or.inr (Or.inr (Or.inr (Or.inr (Or.inr (Or.inr ((Int32.toInt_inj.mp (by rw [h]; decide)))))))))))))))))))))))))))
theorem wc_J6_bitCount_0f7a4 : Cond.code yJ6_bitCount_0f7a4 cJ6_bitCount_0f7a4 1 (some .int) ∈ x_TT := x_TT_of (tq_5 (List.mem_of_getElem? (i := 62) rfl)) rfl
theorem wc_X0_cutOff : Cond.code yX0_cutOff cX0_cutOff 2 none ∈ x_TT := x_TT_of (tq_4 (List.mem_of_getElem? (i := 200) rfl)) rfl
theorem wc_X0_cuts : Cond.code yX0_cuts cX0_cuts 1 (some .int) ∈ x_TT := x_TT_of (tq_4 (List.mem_of_getElem? (i := 196) rfl)) rfl
theorem wc_X0_doDeed : Cond.code yX0_doDeed cX0_doDeed 6 (some .int) ∈ x_TT := x_TT_of (tq_4 (List.mem_of_getElem? (i := 162) rfl)) rfl
theorem wc_X0_isOn : Cond.code yX0_isOn cX0_isOn 2 (some .boolean) ∈ x_TT := x_TT_of (tq_4 (List.mem_of_getElem? (i := 142) rfl)) rfl
theorem wc_X0_isOnMan : Cond.code yX0_isOnMan cX0_isOnMan 3 (some .boolean) ∈ x_TT := x_TT_of (tq_4 (List.mem_of_getElem? (i := 166) rfl)) rfl
theorem wc_X0_leaveBits : Cond.code yX0_leaveBits cX0_leaveBits 5 (some .int) ∈ x_TT := x_TT_of (tq_5 (List.mem_of_getElem? (i := 121) rfl)) rfl
theorem wc_X0_nextSeed : Cond.code yX0_nextSeed cX0_nextSeed 1 (some .int) ∈ x_TT := x_TT_of (tq_4 (List.mem_of_getElem? (i := 227) rfl)) rfl
theorem wc_X0_passDay : Cond.code yX0_passDay cX0_passDay 6 (some .int) ∈ x_TT := x_TT_of (tq_4 (List.mem_of_getElem? (i := 220) rfl)) rfl
theorem wc_X0_seed : Cond.code yX0_seed cX0_seed 1 (some .int) ∈ x_TT := x_TT_of (tq_4 (List.mem_of_getElem? (i := 224) rfl)) rfl
theorem wc_X0_sewAllAsTold : Cond.code yX0_sewAllAsTold cX0_sewAllAsTold 2 none ∈ x_TT := x_TT_of (tq_2 (List.mem_of_getElem? (i := 199) rfl)) rfl
theorem wc_X0_sewAnew : Cond.code yX0_sewAnew cX0_sewAnew 2 none ∈ x_TT := x_TT_of (tq_4 (List.mem_of_getElem? (i := 208) rfl)) rfl
theorem wc_X0_stateAfterWear : Cond.code yX0_stateAfterWear cX0_stateAfterWear 4 (some .int) ∈ x_TT := x_TT_of (tq_5 (List.mem_of_getElem? (i := 18) rfl)) rfl
theorem wc_X0_stateOf : Cond.code yX0_stateOf cX0_stateOf 2 (some .int) ∈ x_TT := x_TT_of (tq_4 (List.mem_of_getElem? (i := 122) rfl)) rfl
theorem wc_X0_stormBy : Cond.code yX0_stormBy cX0_stormBy 2 (some .int) ∈ x_TT := x_TT_of (tq_4 (List.mem_of_getElem? (i := 231) rfl)) rfl
theorem wc_X0_threadOf : Cond.code yX0_threadOf cX0_threadOf 2 (some .int) ∈ x_TT := x_TT_of (tq_4 (List.mem_of_getElem? (i := 126) rfl)) rfl
theorem wc_X0_today : Cond.code yX0_today cX0_today 1 (some .int) ∈ x_TT := x_TT_of (tq_4 (List.mem_of_getElem? (i := 216) rfl)) rfl
theorem wc_X0_unbutton : Cond.code yX0_unbutton cX0_unbutton 2 none ∈ x_TT := x_TT_of (tq_4 (List.mem_of_getElem? (i := 188) rfl)) rfl
theorem wc_X0_waits : Cond.code yX0_waits cX0_waits 3 (some .boolean) ∈ x_TT := x_TT_of (tq_4 (List.mem_of_getElem? (i := 182) rfl)) rfl
theorem wc_X0_worn : Cond.code yX0_worn cX0_worn 8 (some .int) ∈ x_TT := x_TT_of (tq_4 (List.mem_of_getElem? (i := 237) rfl)) rfl
theorem wc_X10_amount : Cond.code yX10_amount cX10_amount 8 (some .int) ∈ x_TT := x_TT_of (tq_5 (List.mem_of_getElem? (i := 2) rfl)) rfl
theorem wc_X10_empty : Cond.code yX10_empty cX10_empty 1 none ∈ x_TT := x_TT_of (tq_1 (List.mem_of_getElem? (i := 66) rfl)) rfl
theorem wc_X10_join : Cond.code yX10_join cX10_join 3 (some .int) ∈ x_TT := x_TT_of (tq_5 (List.mem_of_getElem? (i := 12) rfl)) rfl
theorem wc_X10_push : Cond.code yX10_push cX10_push 3 (some .int) ∈ x_TT := x_TT_of (tq_5 (List.mem_of_getElem? (i := 6) rfl)) rfl
theorem wc_X10_put : Cond.code yX10_put cX10_put 2 none ∈ x_TT := x_TT_of (tq_4 (List.mem_of_getElem? (i := 43) rfl)) rfl
theorem wc_X10_takeOver : Cond.code yX10_takeOver cX10_takeOver 2 none ∈ x_TT := x_TT_of (tq_4 (List.mem_of_getElem? (i := 97) rfl)) rfl
theorem wc_X10_truth : Cond.code yX10_truth cX10_truth 1 (some .int) ∈ x_TT := x_TT_of (tq_5 (List.mem_of_getElem? (i := 9) rfl)) rfl
theorem wc_X11_about : Cond.code yX11_about cX11_about 2 (some .int) ∈ x_TT := x_TT_of (tq_6 (List.mem_of_getElem? (i := 46) rfl)) rfl
theorem wc_X11_ask : Cond.code yX11_ask cX11_ask 6 (some .int) ∈ x_TT := x_TT_of (tq_6 (List.mem_of_getElem? (i := 20) rfl)) rfl
theorem wc_X11_asked : Cond.code yX11_asked cX11_asked 6 (some .int) ∈ x_TT := x_TT_of (tq_5 (List.mem_of_getElem? (i := 126) rfl)) rfl
theorem wc_X11_back : Cond.code yX11_back cX11_back 2 (some .int) ∈ x_TT := x_TT_of (tq_6 (List.mem_of_getElem? (i := 37) rfl)) rfl
theorem wc_X11_button : Cond.code yX11_button cX11_button 3 (some .int) ∈ x_TT := x_TT_of (tq_4 (List.mem_of_getElem? (i := 114) rfl)) rfl
theorem wc_X11_calm : Cond.code yX11_calm cX11_calm 1 (some .int) ∈ x_TT := x_TT_of (tq_5 (List.mem_of_getElem? (i := 210) rfl)) rfl
theorem wc_X11_clash : Cond.code yX11_clash cX11_clash 4 (some .int) ∈ x_TT := x_TT_of (tq_5 (List.mem_of_getElem? (i := 101) rfl)) rfl
theorem wc_X11_coat : Cond.code yX11_coat cX11_coat 7 (some .int) ∈ x_TT := x_TT_of (tq_4 (List.mem_of_getElem? (i := 130) rfl)) rfl
theorem wc_X11_cut : Cond.code yX11_cut cX11_cut 2 (some .int) ∈ x_TT := x_TT_of (tq_4 (List.mem_of_getElem? (i := 192) rfl)) rfl
theorem wc_X11_day : Cond.code yX11_day cX11_day 2 (some .int) ∈ x_TT := x_TT_of (tq_4 (List.mem_of_getElem? (i := 212) rfl)) rfl
theorem wc_X11_does : Cond.code yX11_does cX11_does 4 (some .int) ∈ x_TT := x_TT_of (tq_4 (List.mem_of_getElem? (i := 158) rfl)) rfl
theorem wc_X11_end : Cond.code yX11_end cX11_end 2 (some .int) ∈ x_TT := x_TT_of (tq_3 (List.mem_of_getElem? (i := 25) rfl)) rfl
theorem wc_X11_fault : Cond.code yX11_fault cX11_fault 2 (some .int) ∈ x_TT := x_TT_of (tq_4 (List.mem_of_getElem? (i := 110) rfl)) rfl
theorem wc_X11_feed : Cond.code yX11_feed cX11_feed 6 (some .int) ∈ x_TT := x_TT_of (tq_3 (List.mem_of_getElem? (i := 17) rfl)) rfl
theorem wc_X11_first : Cond.code yX11_first cX11_first 6 (some .int) ∈ x_TT := x_TT_of (tq_5 (List.mem_of_getElem? (i := 159) rfl)) rfl
theorem wc_X11_free : Cond.code yX11_free cX11_free 3 (some .int) ∈ x_TT := x_TT_of (tq_4 (List.mem_of_getElem? (i := 138) rfl)) rfl
theorem wc_X11_holds : Cond.code yX11_holds cX11_holds 4 (some .int) ∈ x_TT := x_TT_of (tq_5 (List.mem_of_getElem? (i := 130) rfl)) rfl
theorem wc_X11_image : Cond.code yX11_image cX11_image 2 (some .int) ∈ x_TT := x_TT_of (tq_6 (List.mem_of_getElem? (i := 29) rfl)) rfl
theorem wc_X11_isButtonOn : Cond.code yX11_isButtonOn cX11_isButtonOn 2 (some .boolean) ∈ x_TT := x_TT_of (tq_4 (List.mem_of_getElem? (i := 178) rfl)) rfl
theorem wc_X11_keep : Cond.code yX11_keep cX11_keep 3 (some .int) ∈ x_TT := x_TT_of (tq_5 (List.mem_of_getElem? (i := 42) rfl)) rfl
theorem wc_X11_later : Cond.code yX11_later cX11_later 2 (some .int) ∈ x_TT := x_TT_of (tq_5 (List.mem_of_getElem? (i := 239) rfl)) rfl
theorem wc_X11_layDown : Cond.code yX11_layDown cX11_layDown 2 none ∈ x_TT := x_TT_of (tq_5 (List.mem_of_getElem? (i := 82) rfl)) rfl
theorem wc_X11_layOut : Cond.code yX11_layOut cX11_layOut 4 none ∈ x_TT := x_TT_of (tq_5 (List.mem_of_getElem? (i := 78) rfl)) rfl
theorem wc_X11_leave : Cond.code yX11_leave cX11_leave 5 (some .int) ∈ x_TT := x_TT_of (tq_5 (List.mem_of_getElem? (i := 117) rfl)) rfl
theorem wc_X11_lies : Cond.code yX11_lies cX11_lies 2 (some .int) ∈ x_TT := x_TT_of (tq_5 (List.mem_of_getElem? (i := 219) rfl)) rfl
theorem wc_X11_likes : Cond.code yX11_likes cX11_likes 3 (some .int) ∈ x_TT := x_TT_of (tq_5 (List.mem_of_getElem? (i := 214) rfl)) rfl
theorem wc_X11_many : Cond.code yX11_many cX11_many 4 (some .int) ∈ x_TT := x_TT_of (tq_4 (List.mem_of_getElem? (i := 154) rfl)) rfl
theorem wc_X11_odds : Cond.code yX11_odds cX11_odds 4 (some .long) ∈ x_TT := x_TT_of (tq_5 (List.mem_of_getElem? (i := 142) rfl)) rfl
theorem wc_X11_putOnTape : Cond.code yX11_putOnTape cX11_putOnTape 3 none ∈ x_TT := x_TT_of (tq_3 (List.mem_of_getElem? (i := 21) rfl)) rfl
theorem wc_X11_redo : Cond.code yX11_redo cX11_redo 1 (some .boolean) ∈ x_TT := x_TT_of (tq_5 (List.mem_of_getElem? (i := 34) rfl)) rfl
theorem wc_X11_regiment : Cond.code yX11_regiment cX11_regiment 2 (some .int) ∈ x_TT := x_TT_of (tq_3 (List.mem_of_getElem? (i := 29) rfl)) rfl
theorem wc_X11_rest : Cond.code yX11_rest cX11_rest 4 (some .int) ∈ x_TT := x_TT_of (tq_5 (List.mem_of_getElem? (i := 87) rfl)) rfl
theorem wc_X11_sew : Cond.code yX11_sew cX11_sew 3 (some .int) ∈ x_TT := x_TT_of (tq_4 (List.mem_of_getElem? (i := 204) rfl)) rfl
theorem wc_X11_swore : Cond.code yX11_swore cX11_swore 2 (some .int) ∈ x_TT := x_TT_of (tq_6 (List.mem_of_getElem? (i := 4) rfl)) rfl
theorem wc_X11_sworn : Cond.code yX11_sworn cX11_sworn 5 (some .int) ∈ x_TT := x_TT_of (tq_4 (List.mem_of_getElem? (i := 146) rfl)) rfl
theorem wc_X11_ties : Cond.code yX11_ties cX11_ties 5 (some .int) ∈ x_TT := x_TT_of (tq_5 (List.mem_of_getElem? (i := 96) rfl)) rfl
theorem wc_X11_truce : Cond.code yX11_truce cX11_truce 1 (some .int) ∈ x_TT := x_TT_of (tq_5 (List.mem_of_getElem? (i := 180) rfl)) rfl
theorem wc_X11_tug : Cond.code yX11_tug cX11_tug 4 (some .int) ∈ x_TT := x_TT_of (tq_5 (List.mem_of_getElem? (i := 223) rfl)) rfl
theorem wc_X11_undo : Cond.code yX11_undo cX11_undo 1 (some .boolean) ∈ x_TT := x_TT_of (tq_5 (List.mem_of_getElem? (i := 22) rfl)) rfl
theorem wc_X11_undoes : Cond.code yX11_undoes cX11_undoes 2 (some .boolean) ∈ x_TT := x_TT_of (tq_4 (List.mem_of_getElem? (i := 174) rfl)) rfl
theorem wc_X11_untell : Cond.code yX11_untell cX11_untell 2 (some .boolean) ∈ x_TT := x_TT_of (tq_5 (List.mem_of_getElem? (i := 231) rfl)) rfl
theorem wc_X11_will : Cond.code yX11_will cX11_will 3 (some .int) ∈ x_TT := x_TT_of (tq_5 (List.mem_of_getElem? (i := 167) rfl)) rfl
theorem wc_X12_about : Cond.code yX12_about cX12_about 2 (some .int) ∈ x_TT := x_TT_of (tq_9 (List.mem_of_getElem? (i := 91) rfl)) rfl
theorem wc_X12_act : Cond.code yX12_act cX12_act 2 none ∈ x_TT := x_TT_of (tq_8 (List.mem_of_getElem? (i := 94) rfl)) rfl
theorem wc_X12_add : Cond.code yX12_add cX12_add 3 none ∈ x_TT := x_TT_of (tq_8 (List.mem_of_getElem? (i := 26) rfl)) rfl
theorem wc_X12_ask : Cond.code yX12_ask cX12_ask 6 (some .int) ∈ x_TT := x_TT_of (tq_9 (List.mem_of_getElem? (i := 71) rfl)) rfl
theorem wc_X12_asked : Cond.code yX12_asked cX12_asked 1 (some .int) ∈ x_TT := x_TT_of (tq_8 (List.mem_of_getElem? (i := 22) rfl)) rfl
theorem wc_X12_asked_ : Cond.code yX12_asked_ cX12_asked_ 6 (some .int) ∈ x_TT := x_TT_of (tq_8 (List.mem_of_getElem? (i := 208) rfl)) rfl
theorem wc_X12_back : Cond.code yX12_back cX12_back 3 (some .int) ∈ x_TT := x_TT_of (tq_9 (List.mem_of_getElem? (i := 87) rfl)) rfl
theorem wc_X12_beginOrder : Cond.code yX12_beginOrder cX12_beginOrder 1 none ∈ x_TT := x_TT_of (tq_8 (List.mem_of_getElem? (i := 149) rfl)) rfl
theorem wc_X12_button : Cond.code yX12_button cX12_button 3 (some .int) ∈ x_TT := x_TT_of (tq_8 (List.mem_of_getElem? (i := 50) rfl)) rfl
theorem wc_X12_calm : Cond.code yX12_calm cX12_calm 4 (some .int) ∈ x_TT := x_TT_of (tq_9 (List.mem_of_getElem? (i := 30) rfl)) rfl
theorem wc_X12_canPut : Cond.code yX12_canPut cX12_canPut 4 (some .boolean) ∈ x_TT := x_TT_of (tq_8 (List.mem_of_getElem? (i := 157) rfl)) rfl
theorem wc_X12_clash : Cond.code yX12_clash cX12_clash 6 (some .int) ∈ x_TT := x_TT_of (tq_8 (List.mem_of_getElem? (i := 192) rfl)) rfl
theorem wc_X12_close : Cond.code yX12_close cX12_close 2 none ∈ x_TT := x_TT_of (tq_8 (List.mem_of_getElem? (i := 38) rfl)) rfl
theorem wc_X12_coat : Cond.code yX12_coat cX12_coat 6 (some .int) ∈ x_TT := x_TT_of (tq_8 (List.mem_of_getElem? (i := 61) rfl)) rfl
theorem wc_X12_common : Cond.code yX12_common cX12_common 10 (some .long) ∈ x_TT := x_TT_of (tq_8 (List.mem_of_getElem? (i := 229) rfl)) rfl
theorem wc_X12_countUnit : Cond.code yX12_countUnit cX12_countUnit 1 none ∈ x_TT := x_TT_of (tq_8 (List.mem_of_getElem? (i := 18) rfl)) rfl
theorem wc_X12_cut : Cond.code yX12_cut cX12_cut 2 (some .int) ∈ x_TT := x_TT_of (tq_8 (List.mem_of_getElem? (i := 102) rfl)) rfl
theorem wc_X12_day : Cond.code yX12_day cX12_day 3 (some .int) ∈ x_TT := x_TT_of (tq_8 (List.mem_of_getElem? (i := 110) rfl)) rfl
theorem wc_X12_daysOf : Cond.code yX12_daysOf cX12_daysOf 4 (some .int) ∈ x_TT := x_TT_of (tq_8 (List.mem_of_getElem? (i := 238) rfl)) rfl
theorem wc_X12_does : Cond.code yX12_does cX12_does 6 (some .int) ∈ x_TT := x_TT_of (tq_8 (List.mem_of_getElem? (i := 90) rfl)) rfl
theorem wc_X12_done : Cond.code yX12_done cX12_done 3 (some .int) ∈ x_TT := x_TT_of (tq_8 (List.mem_of_getElem? (i := 125) rfl)) rfl
theorem wc_X12_doneOn : Cond.code yX12_doneOn cX12_doneOn 2 (some .int) ∈ x_TT := x_TT_of (tq_8 (List.mem_of_getElem? (i := 161) rfl)) rfl
theorem wc_X12_end : Cond.code yX12_end cX12_end 2 (some .int) ∈ x_TT := x_TT_of (tq_7 (List.mem_of_getElem? (i := 117) rfl)) rfl
theorem wc_X12_exchange : Cond.code yX12_exchange cX12_exchange 4 none ∈ x_TT := x_TT_of (tq_8 (List.mem_of_getElem? (i := 133) rfl)) rfl
theorem wc_X12_fault : Cond.code yX12_fault cX12_fault 2 (some .int) ∈ x_TT := x_TT_of (tq_8 (List.mem_of_getElem? (i := 46) rfl)) rfl
theorem wc_X12_feed : Cond.code yX12_feed cX12_feed 6 (some .int) ∈ x_TT := x_TT_of (tq_7 (List.mem_of_getElem? (i := 109) rfl)) rfl
theorem wc_X12_find : Cond.code yX12_find cX12_find 5 (some .int) ∈ x_TT := x_TT_of (tq_7 (List.mem_of_getElem? (i := 196) rfl)) rfl
theorem wc_X12_first : Cond.code yX12_first cX12_first 6 (some .int) ∈ x_TT := x_TT_of (tq_8 (List.mem_of_getElem? (i := 233) rfl)) rfl
theorem wc_X12_four : Cond.code yX12_four cX12_four 3 none ∈ x_TT := x_TT_of (tq_7 (List.mem_of_getElem? (i := 113) rfl)) rfl
theorem wc_X12_free : Cond.code yX12_free cX12_free 3 (some .int) ∈ x_TT := x_TT_of (tq_8 (List.mem_of_getElem? (i := 69) rfl)) rfl
theorem wc_X12_goDay : Cond.code yX12_goDay cX12_goDay 4 (some .int) ∈ x_TT := x_TT_of (tq_8 (List.mem_of_getElem? (i := 118) rfl)) rfl
theorem wc_X12_has : Cond.code yX12_has cX12_has 2 (some .int) ∈ x_TT := x_TT_of (tq_9 (List.mem_of_getElem? (i := 22) rfl)) rfl
theorem wc_X12_hasBracket : Cond.code yX12_hasBracket cX12_hasBracket 3 (some .boolean) ∈ x_TT := x_TT_of (tq_8 (List.mem_of_getElem? (i := 34) rfl)) rfl
theorem wc_X12_hasRelation : Cond.code yX12_hasRelation cX12_hasRelation 2 (some .boolean) ∈ x_TT := x_TT_of (tq_8 (List.mem_of_getElem? (i := 42) rfl)) rfl
theorem wc_X12_here : Cond.code yX12_here cX12_here 2 (some .int) ∈ x_TT := x_TT_of (tq_7 (List.mem_of_getElem? (i := 133) rfl)) rfl
theorem wc_X12_holds : Cond.code yX12_holds cX12_holds 4 (some .int) ∈ x_TT := x_TT_of (tq_8 (List.mem_of_getElem? (i := 212) rfl)) rfl
theorem wc_X12_image : Cond.code yX12_image cX12_image 3 (some .int) ∈ x_TT := x_TT_of (tq_9 (List.mem_of_getElem? (i := 80) rfl)) rfl
theorem wc_X12_isAhead : Cond.code yX12_isAhead cX12_isAhead 2 (some .boolean) ∈ x_TT := x_TT_of (tq_8 (List.mem_of_getElem? (i := 180) rfl)) rfl
theorem wc_X12_isBetter : Cond.code yX12_isBetter cX12_isBetter 3 (some .boolean) ∈ x_TT := x_TT_of (tq_8 (List.mem_of_getElem? (i := 173) rfl)) rfl
theorem wc_X12_isBox : Cond.code yX12_isBox cX12_isBox 1 (some .boolean) ∈ x_TT := x_TT_of (tq_9 (List.mem_of_getElem? (i := 83) rfl)) rfl
theorem wc_X12_isButton : Cond.code yX12_isButton cX12_isButton 2 (some .boolean) ∈ x_TT := x_TT_of (tq_8 (List.mem_of_getElem? (i := 54) rfl)) rfl
theorem wc_X12_isCalm : Cond.code yX12_isCalm cX12_isCalm 4 (some .boolean) ∈ x_TT := x_TT_of (tq_9 (List.mem_of_getElem? (i := 34) rfl)) rfl
theorem wc_X12_isDeed : Cond.code yX12_isDeed cX12_isDeed 2 (some .boolean) ∈ x_TT := x_TT_of (tq_8 (List.mem_of_getElem? (i := 78) rfl)) rfl
theorem wc_X12_isDigit : Cond.code yX12_isDigit cX12_isDigit 1 (some .boolean) ∈ x_TT := x_TT_of (tq_7 (List.mem_of_getElem? (i := 139) rfl)) rfl
theorem wc_X12_isForbidden : Cond.code yX12_isForbidden cX12_isForbidden 6 (some .boolean) ∈ x_TT := x_TT_of (tq_8 (List.mem_of_getElem? (i := 165) rfl)) rfl
theorem wc_X12_isFull : Cond.code yX12_isFull cX12_isFull 1 (some .boolean) ∈ x_TT := x_TT_of (tq_8 (List.mem_of_getElem? (i := 14) rfl)) rfl
theorem wc_X12_isIn : Cond.code yX12_isIn cX12_isIn 3 (some .boolean) ∈ x_TT := x_TT_of (tq_8 (List.mem_of_getElem? (i := 57) rfl)) rfl
theorem wc_X12_isLetter : Cond.code yX12_isLetter cX12_isLetter 1 (some .boolean) ∈ x_TT := x_TT_of (tq_7 (List.mem_of_getElem? (i := 136) rfl)) rfl
theorem wc_X12_isMan : Cond.code yX12_isMan cX12_isMan 2 (some .boolean) ∈ x_TT := x_TT_of (tq_8 (List.mem_of_getElem? (i := 65) rfl)) rfl
theorem wc_X12_isName : Cond.code yX12_isName cX12_isName 1 (some .boolean) ∈ x_TT := x_TT_of (tq_7 (List.mem_of_getElem? (i := 163) rfl)) rfl
theorem wc_X12_isOn : Cond.code yX12_isOn cX12_isOn 2 (some .boolean) ∈ x_TT := x_TT_of (tq_8 (List.mem_of_getElem? (i := 82) rfl)) rfl
theorem wc_X12_isOwn : Cond.code yX12_isOwn cX12_isOwn 1 (some .boolean) ∈ x_TT := x_TT_of (tq_7 (List.mem_of_getElem? (i := 167) rfl)) rfl
theorem wc_X12_isSign : Cond.code yX12_isSign cX12_isSign 1 (some .boolean) ∈ x_TT := x_TT_of (tq_7 (List.mem_of_getElem? (i := 142) rfl)) rfl
theorem wc_X12_isTold : Cond.code yX12_isTold cX12_isTold 3 (some .boolean) ∈ x_TT := x_TT_of (tq_9 (List.mem_of_getElem? (i := 18) rfl)) rfl
theorem wc_X12_isWord : Cond.code yX12_isWord cX12_isWord 3 (some .boolean) ∈ x_TT := x_TT_of (tq_7 (List.mem_of_getElem? (i := 151) rfl)) rfl
theorem wc_X12_keep : Cond.code yX12_keep cX12_keep 4 (some .int) ∈ x_TT := x_TT_of (tq_8 (List.mem_of_getElem? (i := 141) rfl)) rfl
theorem wc_X12_keptOf : Cond.code yX12_keptOf cX12_keptOf 6 (some .int) ∈ x_TT := x_TT_of (tq_8 (List.mem_of_getElem? (i := 169) rfl)) rfl
theorem wc_X12_later : Cond.code yX12_later cX12_later 2 (some .int) ∈ x_TT := x_TT_of (tq_9 (List.mem_of_getElem? (i := 54) rfl)) rfl
theorem wc_X12_layBest : Cond.code yX12_layBest cX12_layBest 4 none ∈ x_TT := x_TT_of (tq_8 (List.mem_of_getElem? (i := 145) rfl)) rfl
theorem wc_X12_layCanKeep : Cond.code yX12_layCanKeep cX12_layCanKeep 4 none ∈ x_TT := x_TT_of (tq_8 (List.mem_of_getElem? (i := 196) rfl)) rfl
theorem wc_X12_layTwos : Cond.code yX12_layTwos cX12_layTwos 5 (some .boolean) ∈ x_TT := x_TT_of (tq_9 (List.mem_of_getElem? (i := 14) rfl)) rfl
theorem wc_X12_leave : Cond.code yX12_leave cX12_leave 5 (some .int) ∈ x_TT := x_TT_of (tq_8 (List.mem_of_getElem? (i := 200) rfl)) rfl
theorem wc_X12_leaving : Cond.code yX12_leaving cX12_leaving 5 (some .int) ∈ x_TT := x_TT_of (tq_8 (List.mem_of_getElem? (i := 204) rfl)) rfl
theorem wc_X12_lies : Cond.code yX12_lies cX12_lies 2 (some .int) ∈ x_TT := x_TT_of (tq_9 (List.mem_of_getElem? (i := 42) rfl)) rfl
theorem wc_X12_likes : Cond.code yX12_likes cX12_likes 3 (some .int) ∈ x_TT := x_TT_of (tq_9 (List.mem_of_getElem? (i := 38) rfl)) rfl
theorem wc_X12_load : Cond.code yX12_load cX12_load 2 none ∈ x_TT := x_TT_of (tq_8 (List.mem_of_getElem? (i := 114) rfl)) rfl
theorem wc_X12_many : Cond.code yX12_many cX12_many 4 (some .int) ∈ x_TT := x_TT_of (tq_8 (List.mem_of_getElem? (i := 86) rfl)) rfl
theorem wc_X12_markOf : Cond.code yX12_markOf cX12_markOf 3 (some .int) ∈ x_TT := x_TT_of (tq_9 (List.mem_of_getElem? (i := 67) rfl)) rfl
theorem wc_X12_mayNot : Cond.code yX12_mayNot cX12_mayNot 1 (some .boolean) ∈ x_TT := x_TT_of (tq_8 (List.mem_of_getElem? (i := 3) rfl)) rfl
theorem wc_X12_members : Cond.code yX12_members cX12_members 3 (some .int) ∈ x_TT := x_TT_of (tq_8 (List.mem_of_getElem? (i := 176) rfl)) rfl
theorem wc_X12_mostLeft : Cond.code yX12_mostLeft cX12_mostLeft 7 (some .int) ∈ x_TT := x_TT_of (tq_9 (List.mem_of_getElem? (i := 76) rfl)) rfl
theorem wc_X12_newName : Cond.code yX12_newName cX12_newName 3 none ∈ x_TT := x_TT_of (tq_7 (List.mem_of_getElem? (i := 159) rfl)) rfl
theorem wc_X12_nextOrder : Cond.code yX12_nextOrder cX12_nextOrder 3 (some .boolean) ∈ x_TT := x_TT_of (tq_8 (List.mem_of_getElem? (i := 153) rfl)) rfl
theorem wc_X12_odds : Cond.code yX12_odds cX12_odds 12 (some .long) ∈ x_TT := x_TT_of (tq_8 (List.mem_of_getElem? (i := 220) rfl)) rfl
theorem wc_X12_oldName : Cond.code yX12_oldName cX12_oldName 3 (some .int) ∈ x_TT := x_TT_of (tq_7 (List.mem_of_getElem? (i := 227) rfl)) rfl
theorem wc_X12_openUp : Cond.code yX12_openUp cX12_openUp 2 none ∈ x_TT := x_TT_of (tq_8 (List.mem_of_getElem? (i := 10) rfl)) rfl
theorem wc_X12_option : Cond.code yX12_option cX12_option 6 (some .int) ∈ x_TT := x_TT_of (tq_7 (List.mem_of_getElem? (i := 200) rfl)) rfl
theorem wc_X12_putTwos : Cond.code yX12_putTwos cX12_putTwos 2 none ∈ x_TT := x_TT_of (tq_9 (List.mem_of_getElem? (i := 26) rfl)) rfl
theorem wc_X12_readAll : Cond.code yX12_readAll cX12_readAll 1 none ∈ x_TT := x_TT_of (tq_7 (List.mem_of_getElem? (i := 125) rfl)) rfl
theorem wc_X12_readButton : Cond.code yX12_readButton cX12_readButton 2 none ∈ x_TT := x_TT_of (tq_7 (List.mem_of_getElem? (i := 223) rfl)) rfl
theorem wc_X12_readDeed : Cond.code yX12_readDeed cX12_readDeed 1 none ∈ x_TT := x_TT_of (tq_7 (List.mem_of_getElem? (i := 219) rfl)) rfl
theorem wc_X12_readFriend : Cond.code yX12_readFriend cX12_readFriend 6 none ∈ x_TT := x_TT_of (tq_7 (List.mem_of_getElem? (i := 231) rfl)) rfl
theorem wc_X12_readLine : Cond.code yX12_readLine cX12_readLine 1 none ∈ x_TT := x_TT_of (tq_7 (List.mem_of_getElem? (i := 146) rfl)) rfl
theorem wc_X12_readMan : Cond.code yX12_readMan cX12_readMan 3 none ∈ x_TT := x_TT_of (tq_7 (List.mem_of_getElem? (i := 155) rfl)) rfl
theorem wc_X12_readWear : Cond.code yX12_readWear cX12_readWear 3 none ∈ x_TT := x_TT_of (tq_7 (List.mem_of_getElem? (i := 235) rfl)) rfl
theorem wc_X12_redo : Cond.code yX12_redo cX12_redo 1 (some .boolean) ∈ x_TT := x_TT_of (tq_8 (List.mem_of_getElem? (i := 137) rfl)) rfl
theorem wc_X12_regiment : Cond.code yX12_regiment cX12_regiment 3 (some .int) ∈ x_TT := x_TT_of (tq_7 (List.mem_of_getElem? (i := 121) rfl)) rfl
theorem wc_X12_rest : Cond.code yX12_rest cX12_rest 4 (some .int) ∈ x_TT := x_TT_of (tq_8 (List.mem_of_getElem? (i := 184) rfl)) rfl
theorem wc_X12_rowsOf : Cond.code yX12_rowsOf cX12_rowsOf 3 (some .int) ∈ x_TT := x_TT_of (tq_9 (List.mem_of_getElem? (i := 10) rfl)) rfl
theorem wc_X12_sew : Cond.code yX12_sew cX12_sew 3 (some .int) ∈ x_TT := x_TT_of (tq_8 (List.mem_of_getElem? (i := 106) rfl)) rfl
theorem wc_X12_sign : Cond.code yX12_sign cX12_sign 1 (some .int) ∈ x_TT := x_TT_of (tq_8 (List.mem_of_getElem? (i := 30) rfl)) rfl
theorem wc_X12_swears : Cond.code yX12_swears cX12_swears 5 (some .boolean) ∈ x_TT := x_TT_of (tq_9 (List.mem_of_getElem? (i := 63) rfl)) rfl
theorem wc_X12_swore : Cond.code yX12_swore cX12_swore 4 (some .int) ∈ x_TT := x_TT_of (tq_9 (List.mem_of_getElem? (i := 59) rfl)) rfl
theorem wc_X12_sworn : Cond.code yX12_sworn cX12_sworn 5 (some .int) ∈ x_TT := x_TT_of (tq_8 (List.mem_of_getElem? (i := 74) rfl)) rfl
theorem wc_X12_threadBy : Cond.code yX12_threadBy cX12_threadBy 6 (some .int) ∈ x_TT := x_TT_of (tq_8 (List.mem_of_getElem? (i := 226) rfl)) rfl
theorem wc_X12_threadSame : Cond.code yX12_threadSame cX12_threadSame 6 (some .int) ∈ x_TT := x_TT_of (tq_8 (List.mem_of_getElem? (i := 216) rfl)) rfl
theorem wc_X12_ties : Cond.code yX12_ties cX12_ties 5 (some .int) ∈ x_TT := x_TT_of (tq_8 (List.mem_of_getElem? (i := 188) rfl)) rfl
theorem wc_X12_tight : Cond.code yX12_tight cX12_tight 1 (some .int) ∈ x_TT := x_TT_of (tq_8 (List.mem_of_getElem? (i := 6) rfl)) rfl
theorem wc_X12_token : Cond.code yX12_token cX12_token 3 none ∈ x_TT := x_TT_of (tq_7 (List.mem_of_getElem? (i := 129) rfl)) rfl
theorem wc_X12_told : Cond.code yX12_told cX12_told 5 (some .int) ∈ x_TT := x_TT_of (tq_7 (List.mem_of_getElem? (i := 204) rfl)) rfl
theorem wc_X12_toldNumber : Cond.code yX12_toldNumber cX12_toldNumber 4 (some .int) ∈ x_TT := x_TT_of (tq_7 (List.mem_of_getElem? (i := 212) rfl)) rfl
theorem wc_X12_truce : Cond.code yX12_truce cX12_truce 6 (some .int) ∈ x_TT := x_TT_of (tq_9 (List.mem_of_getElem? (i := 6) rfl)) rfl
theorem wc_X12_truth : Cond.code yX12_truth cX12_truth 1 (some .int) ∈ x_TT := x_TT_of (tq_7 (List.mem_of_getElem? (i := 215) rfl)) rfl
theorem wc_X12_tug : Cond.code yX12_tug cX12_tug 4 (some .int) ∈ x_TT := x_TT_of (tq_9 (List.mem_of_getElem? (i := 46) rfl)) rfl
theorem wc_X12_undo : Cond.code yX12_undo cX12_undo 1 (some .boolean) ∈ x_TT := x_TT_of (tq_8 (List.mem_of_getElem? (i := 129) rfl)) rfl
theorem wc_X12_undoes : Cond.code yX12_undoes cX12_undoes 2 (some .boolean) ∈ x_TT := x_TT_of (tq_8 (List.mem_of_getElem? (i := 98) rfl)) rfl
theorem wc_X12_unit : Cond.code yX12_unit cX12_unit 3 none ∈ x_TT := x_TT_of (tq_7 (List.mem_of_getElem? (i := 239) rfl)) rfl
theorem wc_X12_untell : Cond.code yX12_untell cX12_untell 2 (some .boolean) ∈ x_TT := x_TT_of (tq_9 (List.mem_of_getElem? (i := 50) rfl)) rfl
theorem wc_X12_want : Cond.code yX12_want cX12_want 3 none ∈ x_TT := x_TT_of (tq_7 (List.mem_of_getElem? (i := 208) rfl)) rfl
theorem wc_X12_wearOf : Cond.code yX12_wearOf cX12_wearOf 7 (some .int) ∈ x_TT := x_TT_of (tq_8 (List.mem_of_getElem? (i := 122) rfl)) rfl
theorem wc_X12_will : Cond.code yX12_will cX12_will 4 (some .int) ∈ x_TT := x_TT_of (tq_9 (List.mem_of_getElem? (i := 2) rfl)) rfl
theorem wc_X12_wrong : Cond.code yX12_wrong cX12_wrong 2 none ∈ x_TT := x_TT_of (tq_7 (List.mem_of_getElem? (i := 192) rfl)) rfl
theorem wc_X1_inputSign : Cond.code yX1_inputSign cX1_inputSign 2 (some .int) ∈ x_TT := x_TT_of (tq_4 (List.mem_of_getElem? (i := 69) rfl)) rfl
theorem wc_X1_isTermSign : Cond.code yX1_isTermSign cX1_isTermSign 1 (some .boolean) ∈ x_TT := x_TT_of (tq_4 (List.mem_of_getElem? (i := 73) rfl)) rfl
theorem wc_X1_readBoth : Cond.code yX1_readBoth cX1_readBoth 3 (some .boolean) ∈ x_TT := x_TT_of (tq_4 (List.mem_of_getElem? (i := 28) rfl)) rfl
theorem wc_X1_readBracket : Cond.code yX1_readBracket cX1_readBracket 2 (some .boolean) ∈ x_TT := x_TT_of (tq_4 (List.mem_of_getElem? (i := 60) rfl)) rfl
theorem wc_X1_readEither : Cond.code yX1_readEither cX1_readEither 3 (some .boolean) ∈ x_TT := x_TT_of (tq_4 (List.mem_of_getElem? (i := 24) rfl)) rfl
theorem wc_X1_readFormula : Cond.code yX1_readFormula cX1_readFormula 1 (some .boolean) ∈ x_TT := x_TT_of (tq_4 (List.mem_of_getElem? (i := 20) rfl)) rfl
theorem wc_X1_readNot : Cond.code yX1_readNot cX1_readNot 2 (some .boolean) ∈ x_TT := x_TT_of (tq_4 (List.mem_of_getElem? (i := 37) rfl)) rfl
theorem wc_X1_readOne : Cond.code yX1_readOne cX1_readOne 3 (some .boolean) ∈ x_TT := x_TT_of (tq_4 (List.mem_of_getElem? (i := 32) rfl)) rfl
theorem wc_X1_readSum : Cond.code yX1_readSum cX1_readSum 4 (some .boolean) ∈ x_TT := x_TT_of (tq_4 (List.mem_of_getElem? (i := 47) rfl)) rfl
theorem wc_X1_readTerm : Cond.code yX1_readTerm cX1_readTerm 4 (some .boolean) ∈ x_TT := x_TT_of (tq_4 (List.mem_of_getElem? (i := 51) rfl)) rfl
theorem wc_X1_readUnit : Cond.code yX1_readUnit cX1_readUnit 3 (some .boolean) ∈ x_TT := x_TT_of (tq_4 (List.mem_of_getElem? (i := 55) rfl)) rfl
theorem wc_X2_addAct : Cond.code yX2_addAct cX2_addAct 1 none ∈ x_TT := x_TT_of (tq_4 (List.mem_of_getElem? (i := 170) rfl)) rfl
theorem wc_X2_emptyBoxes : Cond.code yX2_emptyBoxes cX2_emptyBoxes 1 none ∈ x_TT := x_TT_of (tq_4 (List.mem_of_getElem? (i := 102) rfl)) rfl
theorem wc_X2_fillBox : Cond.code yX2_fillBox cX2_fillBox 2 none ∈ x_TT := x_TT_of (tq_6 (List.mem_of_getElem? (i := 33) rfl)) rfl
theorem wc_X2_forgetActs : Cond.code yX2_forgetActs cX2_forgetActs 1 none ∈ x_TT := x_TT_of (tq_2 (List.mem_of_getElem? (i := 203) rfl)) rfl
theorem wc_X2_openBox : Cond.code yX2_openBox cX2_openBox 2 (some .boolean) ∈ x_TT := x_TT_of (tq_6 (List.mem_of_getElem? (i := 41) rfl)) rfl
theorem wc_X2_readRow : Cond.code yX2_readRow cX2_readRow 1 none ∈ x_TT := x_TT_of (tq_5 (List.mem_of_getElem? (i := 30) rfl)) rfl
theorem wc_X2_stepBack : Cond.code yX2_stepBack cX2_stepBack 1 (some .boolean) ∈ x_TT := x_TT_of (tq_5 (List.mem_of_getElem? (i := 26) rfl)) rfl
theorem wc_X2_stepOn : Cond.code yX2_stepOn cX2_stepOn 1 (some .boolean) ∈ x_TT := x_TT_of (tq_5 (List.mem_of_getElem? (i := 38) rfl)) rfl
theorem wc_X2_writeRow : Cond.code yX2_writeRow cX2_writeRow 1 none ∈ x_TT := x_TT_of (tq_2 (List.mem_of_getElem? (i := 207) rfl)) rfl
theorem wc_X3_findBest : Cond.code yX3_findBest cX3_findBest 5 none ∈ x_TT := x_TT_of (tq_5 (List.mem_of_getElem? (i := 51) rfl)) rfl
theorem wc_X3_firstBestDeed : Cond.code yX3_firstBestDeed cX3_firstBestDeed 3 (some .int) ∈ x_TT := x_TT_of (tq_5 (List.mem_of_getElem? (i := 74) rfl)) rfl
theorem wc_X3_followBest : Cond.code yX3_followBest cX3_followBest 4 none ∈ x_TT := x_TT_of (tq_5 (List.mem_of_getElem? (i := 70) rfl)) rfl
theorem wc_X3_keptBy : Cond.code yX3_keptBy cX3_keptBy 7 (some .int) ∈ x_TT := x_TT_of (tq_5 (List.mem_of_getElem? (i := 59) rfl)) rfl
theorem wc_X3_lookAt : Cond.code yX3_lookAt cX3_lookAt 4 none ∈ x_TT := x_TT_of (tq_5 (List.mem_of_getElem? (i := 46) rfl)) rfl
theorem wc_X3_markKeepable : Cond.code yX3_markKeepable cX3_markKeepable 3 none ∈ x_TT := x_TT_of (tq_5 (List.mem_of_getElem? (i := 109) rfl)) rfl
theorem wc_X3_markOrders : Cond.code yX3_markOrders cX3_markOrders 7 none ∈ x_TT := x_TT_of (tq_5 (List.mem_of_getElem? (i := 113) rfl)) rfl
theorem wc_X3_mostKept : Cond.code yX3_mostKept cX3_mostKept 2 (some .int) ∈ x_TT := x_TT_of (tq_5 (List.mem_of_getElem? (i := 91) rfl)) rfl
theorem wc_X3_smallestClash : Cond.code yX3_smallestClash cX3_smallestClash 5 (some .int) ∈ x_TT := x_TT_of (tq_5 (List.mem_of_getElem? (i := 105) rfl)) rfl
theorem wc_X3_wonBy : Cond.code yX3_wonBy cX3_wonBy 5 (some .int) ∈ x_TT := x_TT_of (tq_5 (List.mem_of_getElem? (i := 55) rfl)) rfl
theorem wc_X4_find : Cond.code yX4_find cX4_find 4 (some .int) ∈ x_TT := x_TT_of (tq_3 (List.mem_of_getElem? (i := 189) rfl)) rfl
theorem wc_X4_isNewName : Cond.code yX4_isNewName cX4_isNewName 3 (some .boolean) ∈ x_TT := x_TT_of (tq_3 (List.mem_of_getElem? (i := 185) rfl)) rfl
theorem wc_X4_number : Cond.code yX4_number cX4_number 4 (some .int) ∈ x_TT := x_TT_of (tq_3 (List.mem_of_getElem? (i := 201) rfl)) rfl
theorem wc_X4_oldName : Cond.code yX4_oldName cX4_oldName 4 (some .int) ∈ x_TT := x_TT_of (tq_3 (List.mem_of_getElem? (i := 223) rfl)) rfl
theorem wc_X4_opens : Cond.code yX4_opens cX4_opens 3 (some .boolean) ∈ x_TT := x_TT_of (tq_3 (List.mem_of_getElem? (i := 172) rfl)) rfl
theorem wc_X4_opensOnce : Cond.code yX4_opensOnce cX4_opensOnce 2 (some .boolean) ∈ x_TT := x_TT_of (tq_4 (List.mem_of_getElem? (i := 16) rfl)) rfl
theorem wc_X4_optional : Cond.code yX4_optional cX4_optional 5 (some .int) ∈ x_TT := x_TT_of (tq_3 (List.mem_of_getElem? (i := 193) rfl)) rfl
theorem wc_X4_readAfter : Cond.code yX4_readAfter cX4_readAfter 2 (some .boolean) ∈ x_TT := x_TT_of (tq_3 (List.mem_of_getElem? (i := 231) rfl)) rfl
theorem wc_X4_readButton : Cond.code yX4_readButton cX4_readButton 2 (some .boolean) ∈ x_TT := x_TT_of (tq_3 (List.mem_of_getElem? (i := 215) rfl)) rfl
theorem wc_X4_readDeed : Cond.code yX4_readDeed cX4_readDeed 2 (some .boolean) ∈ x_TT := x_TT_of (tq_3 (List.mem_of_getElem? (i := 205) rfl)) rfl
theorem wc_X4_readDraw : Cond.code yX4_readDraw cX4_readDraw 1 (some .boolean) ∈ x_TT := x_TT_of (tq_4 (List.mem_of_getElem? (i := 85) rfl)) rfl
theorem wc_X4_readFriend : Cond.code yX4_readFriend cX4_readFriend 3 (some .boolean) ∈ x_TT := x_TT_of (tq_3 (List.mem_of_getElem? (i := 235) rfl)) rfl
theorem wc_X4_readHoursOfDay : Cond.code yX4_readHoursOfDay cX4_readHoursOfDay 1 (some .boolean) ∈ x_TT := x_TT_of (tq_4 (List.mem_of_getElem? (i := 77) rfl)) rfl
theorem wc_X4_readMan : Cond.code yX4_readMan cX4_readMan 2 (some .boolean) ∈ x_TT := x_TT_of (tq_3 (List.mem_of_getElem? (i := 168) rfl)) rfl
theorem wc_X4_readPromise : Cond.code yX4_readPromise cX4_readPromise 3 (some .boolean) ∈ x_TT := x_TT_of (tq_3 (List.mem_of_getElem? (i := 227) rfl)) rfl
theorem wc_X4_readStorm : Cond.code yX4_readStorm cX4_readStorm 1 (some .boolean) ∈ x_TT := x_TT_of (tq_4 (List.mem_of_getElem? (i := 81) rfl)) rfl
theorem wc_X4_readText : Cond.code yX4_readText cX4_readText 5 (some .boolean) ∈ x_TT := x_TT_of (tq_3 (List.mem_of_getElem? (i := 33) rfl)) rfl
theorem wc_X4_readWhose : Cond.code yX4_readWhose cX4_readWhose 4 (some .boolean) ∈ x_TT := x_TT_of (tq_3 (List.mem_of_getElem? (i := 219) rfl)) rfl
theorem wc_X4_readWorth : Cond.code yX4_readWorth cX4_readWorth 5 (some .boolean) ∈ x_TT := x_TT_of (tq_4 (List.mem_of_getElem? (i := 3) rfl)) rfl
theorem wc_X5_befriend : Cond.code yX5_befriend cX5_befriend 4 none ∈ x_TT := x_TT_of (tq_4 (List.mem_of_getElem? (i := 12) rfl)) rfl
theorem wc_X5_copy : Cond.code yX5_copy cX5_copy 3 none ∈ x_TT := x_TT_of (tq_4 (List.mem_of_getElem? (i := 93) rfl)) rfl
theorem wc_X5_empty : Cond.code yX5_empty cX5_empty 2 none ∈ x_TT := x_TT_of (tq_1 (List.mem_of_getElem? (i := 62) rfl)) rfl
theorem wc_X5_hasButton : Cond.code yX5_hasButton cX5_hasButton 2 (some .boolean) ∈ x_TT := x_TT_of (tq_4 (List.mem_of_getElem? (i := 118) rfl)) rfl
theorem wc_X5_hasDeed : Cond.code yX5_hasDeed cX5_hasDeed 2 (some .boolean) ∈ x_TT := x_TT_of (tq_4 (List.mem_of_getElem? (i := 150) rfl)) rfl
theorem wc_X5_hasMan : Cond.code yX5_hasMan cX5_hasMan 2 (some .boolean) ∈ x_TT := x_TT_of (tq_4 (List.mem_of_getElem? (i := 134) rfl)) rfl
theorem wc_X5_takeOver : Cond.code yX5_takeOver cX5_takeOver 2 none ∈ x_TT := x_TT_of (tq_4 (List.mem_of_getElem? (i := 90) rfl)) rfl
theorem wc_X5_traitOf : Cond.code yX5_traitOf cX5_traitOf 3 (some .int) ∈ x_TT := x_TT_of (tq_6 (List.mem_of_getElem? (i := 16) rfl)) rfl
theorem wc_X5_worthOf : Cond.code yX5_worthOf cX5_worthOf 3 (some .int) ∈ x_TT := x_TT_of (tq_3 (List.mem_of_getElem? (i := 239) rfl)) rfl
theorem wc_X6_commonDivisor : Cond.code yX6_commonDivisor cX6_commonDivisor 7 (some .long) ∈ x_TT := x_TT_of (tq_5 (List.mem_of_getElem? (i := 155) rfl)) rfl
theorem wc_X6_daysTillLost : Cond.code yX6_daysTillLost cX6_daysTillLost 4 (some .int) ∈ x_TT := x_TT_of (tq_5 (List.mem_of_getElem? (i := 163) rfl)) rfl
theorem wc_X6_oddsPart : Cond.code yX6_oddsPart cX6_oddsPart 12 (some .long) ∈ x_TT := x_TT_of (tq_5 (List.mem_of_getElem? (i := 146) rfl)) rfl
theorem wc_X6_stateBehind : Cond.code yX6_stateBehind cX6_stateBehind 8 (some .int) ∈ x_TT := x_TT_of (tq_5 (List.mem_of_getElem? (i := 171) rfl)) rfl
theorem wc_X6_threadBehind : Cond.code yX6_threadBehind cX6_threadBehind 8 (some .int) ∈ x_TT := x_TT_of (tq_5 (List.mem_of_getElem? (i := 135) rfl)) rfl
theorem wc_X6_waysOf : Cond.code yX6_waysOf cX6_waysOf 6 (some .long) ∈ x_TT := x_TT_of (tq_5 (List.mem_of_getElem? (i := 151) rfl)) rfl
theorem wc_X7_advance : Cond.code yX7_advance cX7_advance 1 none ∈ x_TT := x_TT_of (tq_3 (List.mem_of_getElem? (i := 45) rfl)) rfl
theorem wc_X7_isSign : Cond.code yX7_isSign cX7_isSign 2 (some .boolean) ∈ x_TT := x_TT_of (tq_4 (List.mem_of_getElem? (i := 7) rfl)) rfl
theorem wc_X7_isWord : Cond.code yX7_isWord cX7_isWord 2 (some .boolean) ∈ x_TT := x_TT_of (tq_3 (List.mem_of_getElem? (i := 197) rfl)) rfl
theorem wc_X7_open : Cond.code yX7_open cX7_open 3 none ∈ x_TT := x_TT_of (tq_3 (List.mem_of_getElem? (i := 38) rfl)) rfl
theorem wc_X7_refuse : Cond.code yX7_refuse cX7_refuse 2 (some .boolean) ∈ x_TT := x_TT_of (tq_3 (List.mem_of_getElem? (i := 176) rfl)) rfl
theorem wc_X7_refuseAt : Cond.code yX7_refuseAt cX7_refuseAt 3 (some .boolean) ∈ x_TT := x_TT_of (tq_3 (List.mem_of_getElem? (i := 180) rfl)) rfl
theorem wc_X7_takeDigits : Cond.code yX7_takeDigits cX7_takeDigits 2 none ∈ x_TT := x_TT_of (tq_3 (List.mem_of_getElem? (i := 106) rfl)) rfl
theorem wc_X7_takeLetters : Cond.code yX7_takeLetters cX7_takeLetters 1 none ∈ x_TT := x_TT_of (tq_3 (List.mem_of_getElem? (i := 49) rfl)) rfl
theorem wc_X7_takesSign : Cond.code yX7_takesSign cX7_takesSign 2 (some .boolean) ∈ x_TT := x_TT_of (tq_4 (List.mem_of_getElem? (i := 64) rfl)) rfl
theorem wc_X7_takesWord : Cond.code yX7_takesWord cX7_takesWord 2 (some .boolean) ∈ x_TT := x_TT_of (tq_3 (List.mem_of_getElem? (i := 209) rfl)) rfl
theorem wc_X7_wordNumber : Cond.code yX7_wordNumber cX7_wordNumber 7 (some .int) ∈ x_TT := x_TT_of (tq_3 (List.mem_of_getElem? (i := 53) rfl)) rfl
theorem wc_X8_copyWith : Cond.code yX8_copyWith cX8_copyWith 3 none ∈ x_TT := x_TT_of (tq_5 (List.mem_of_getElem? (i := 202) rfl)) rfl
theorem wc_X8_has : Cond.code yX8_has cX8_has 2 (some .int) ∈ x_TT := x_TT_of (tq_5 (List.mem_of_getElem? (i := 196) rfl)) rfl
theorem wc_X8_isCalm : Cond.code yX8_isCalm cX8_isCalm 4 (some .boolean) ∈ x_TT := x_TT_of (tq_5 (List.mem_of_getElem? (i := 206) rfl)) rfl
theorem wc_X8_pairFrom : Cond.code yX8_pairFrom cX8_pairFrom 4 none ∈ x_TT := x_TT_of (tq_5 (List.mem_of_getElem? (i := 188) rfl)) rfl
theorem wc_X8_tryAll : Cond.code yX8_tryAll cX8_tryAll 2 none ∈ x_TT := x_TT_of (tq_5 (List.mem_of_getElem? (i := 184) rfl)) rfl
theorem wc_X8_weigh : Cond.code yX8_weigh cX8_weigh 3 none ∈ x_TT := x_TT_of (tq_5 (List.mem_of_getElem? (i := 192) rfl)) rfl
theorem wc_X9_fits : Cond.code yX9_fits cX9_fits 5 (some .boolean) ∈ x_TT := x_TT_of (tq_6 (List.mem_of_getElem? (i := 12) rfl)) rfl
theorem wc_X9_forgetAll : Cond.code yX9_forgetAll cX9_forgetAll 1 none ∈ x_TT := x_TT_of (tq_4 (List.mem_of_getElem? (i := 106) rfl)) rfl
theorem wc_X9_leftAtMost : Cond.code yX9_leftAtMost cX9_leftAtMost 8 (some .int) ∈ x_TT := x_TT_of (tq_6 (List.mem_of_getElem? (i := 24) rfl)) rfl
theorem wc_X9_suspects : Cond.code yX9_suspects cX9_suspects 4 (some .int) ∈ x_TT := x_TT_of (tq_6 (List.mem_of_getElem? (i := 8) rfl)) rfl
theorem wc_X9_takeBack : Cond.code yX9_takeBack cX9_takeBack 2 (some .boolean) ∈ x_TT := x_TT_of (tq_5 (List.mem_of_getElem? (i := 235) rfl)) rfl
theorem wc_X9_tell : Cond.code yX9_tell cX9_tell 4 (some .int) ∈ x_TT := x_TT_of (tq_5 (List.mem_of_getElem? (i := 227) rfl)) rfl
theorem wc_max : Cond.code Lib.Math.max.name Lib.Math.max.code 2 (some .int) ∈ x_TT := x_TT_of (tq_3 (List.mem_of_getElem? (i := 125) rfl)) rfl
theorem wc_min : Cond.code Lib.Math.min.name Lib.Math.min.code 2 (some .int) ∈ x_TT := x_TT_of (tq_3 (List.mem_of_getElem? (i := 41) rfl)) rfl
theorem we_X0_cutOff : Cond.selects RX0 yX0_cutOff yX0_cutOff ∈ x_TT := x_TT_of (tq_4 (List.mem_of_getElem? (i := 199) rfl)) rfl
theorem we_X0_cuts : Cond.selects RX0 yX0_cuts yX0_cuts ∈ x_TT := x_TT_of (tq_4 (List.mem_of_getElem? (i := 195) rfl)) rfl
theorem we_X0_doDeed : Cond.selects RX0 yX0_doDeed yX0_doDeed ∈ x_TT := x_TT_of (tq_4 (List.mem_of_getElem? (i := 161) rfl)) rfl
theorem we_X0_isOn : Cond.selects RX0 yX0_isOn yX0_isOn ∈ x_TT := x_TT_of (tq_4 (List.mem_of_getElem? (i := 141) rfl)) rfl
theorem we_X0_isOnMan : Cond.selects RX0 yX0_isOnMan yX0_isOnMan ∈ x_TT := x_TT_of (tq_4 (List.mem_of_getElem? (i := 165) rfl)) rfl
theorem we_X0_leaveBits : Cond.selects RX0 yX0_leaveBits yX0_leaveBits ∈ x_TT := x_TT_of (tq_5 (List.mem_of_getElem? (i := 120) rfl)) rfl
theorem we_X0_passDay : Cond.selects RX0 yX0_passDay yX0_passDay ∈ x_TT := x_TT_of (tq_4 (List.mem_of_getElem? (i := 219) rfl)) rfl
theorem we_X0_seed : Cond.selects RX0 yX0_seed yX0_seed ∈ x_TT := x_TT_of (tq_4 (List.mem_of_getElem? (i := 223) rfl)) rfl
theorem we_X0_sewAllAsTold : Cond.selects RX0 yX0_sewAllAsTold yX0_sewAllAsTold ∈ x_TT := x_TT_of (tq_2 (List.mem_of_getElem? (i := 198) rfl)) rfl
theorem we_X0_sewAnew : Cond.selects RX0 yX0_sewAnew yX0_sewAnew ∈ x_TT := x_TT_of (tq_4 (List.mem_of_getElem? (i := 207) rfl)) rfl
theorem we_X0_stateAfterWear : Cond.selects RX0 yX0_stateAfterWear yX0_stateAfterWear ∈ x_TT := x_TT_of (tq_5 (List.mem_of_getElem? (i := 17) rfl)) rfl
theorem we_X0_stateOf : Cond.selects RX0 yX0_stateOf yX0_stateOf ∈ x_TT := x_TT_of (tq_4 (List.mem_of_getElem? (i := 121) rfl)) rfl
theorem we_X0_stormBy : Cond.selects RX0 yX0_stormBy yX0_stormBy ∈ x_TT := x_TT_of (tq_4 (List.mem_of_getElem? (i := 230) rfl)) rfl
theorem we_X0_threadOf : Cond.selects RX0 yX0_threadOf yX0_threadOf ∈ x_TT := x_TT_of (tq_4 (List.mem_of_getElem? (i := 125) rfl)) rfl
theorem we_X0_today : Cond.selects RX0 yX0_today yX0_today ∈ x_TT := x_TT_of (tq_4 (List.mem_of_getElem? (i := 215) rfl)) rfl
theorem we_X0_unbutton : Cond.selects RX0 yX0_unbutton yX0_unbutton ∈ x_TT := x_TT_of (tq_4 (List.mem_of_getElem? (i := 187) rfl)) rfl
theorem we_X0_waits : Cond.selects RX0 yX0_waits yX0_waits ∈ x_TT := x_TT_of (tq_4 (List.mem_of_getElem? (i := 181) rfl)) rfl
theorem we_X0_worn : Cond.selects RX0 yX0_worn yX0_worn ∈ x_TT := x_TT_of (tq_4 (List.mem_of_getElem? (i := 236) rfl)) rfl
theorem we_X10_amount : Cond.selects RX10 yX10_amount yX10_amount ∈ x_TT := x_TT_of (tq_5 (List.mem_of_getElem? (i := 1) rfl)) rfl
theorem we_X10_empty : Cond.selects RX10 yX10_empty yX10_empty ∈ x_TT := x_TT_of (tq_1 (List.mem_of_getElem? (i := 65) rfl)) rfl
theorem we_X10_push : Cond.selects RX10 yX10_push yX10_push ∈ x_TT := x_TT_of (tp_3 (List.mem_of_getElem? (i := 1) rfl)) rfl
theorem we_X10_put : Cond.selects RX10 yX10_put yX10_put ∈ x_TT := x_TT_of (tq_4 (List.mem_of_getElem? (i := 42) rfl)) rfl
theorem we_X10_takeOver : Cond.selects RX10 yX10_takeOver yX10_takeOver ∈ x_TT := x_TT_of (tq_4 (List.mem_of_getElem? (i := 96) rfl)) rfl
theorem we_X11_about : Cond.selects RX11 yX11_about yX11_about ∈ x_TT := x_TT_of (tq_6 (List.mem_of_getElem? (i := 45) rfl)) rfl
theorem we_X11_ask : Cond.selects RX11 yX11_ask yX11_ask ∈ x_TT := x_TT_of (tq_6 (List.mem_of_getElem? (i := 19) rfl)) rfl
theorem we_X11_asked : Cond.selects RX11 yX11_asked yX11_asked ∈ x_TT := x_TT_of (tq_5 (List.mem_of_getElem? (i := 125) rfl)) rfl
theorem we_X11_back : Cond.selects RX11 yX11_back yX11_back ∈ x_TT := x_TT_of (tq_6 (List.mem_of_getElem? (i := 36) rfl)) rfl
theorem we_X11_button : Cond.selects RX11 yX11_button yX11_button ∈ x_TT := x_TT_of (tq_4 (List.mem_of_getElem? (i := 113) rfl)) rfl
theorem we_X11_calm : Cond.selects RX11 yX11_calm yX11_calm ∈ x_TT := x_TT_of (tq_5 (List.mem_of_getElem? (i := 209) rfl)) rfl
theorem we_X11_clash : Cond.selects RX11 yX11_clash yX11_clash ∈ x_TT := x_TT_of (tq_5 (List.mem_of_getElem? (i := 100) rfl)) rfl
theorem we_X11_coat : Cond.selects RX11 yX11_coat yX11_coat ∈ x_TT := x_TT_of (tq_4 (List.mem_of_getElem? (i := 129) rfl)) rfl
theorem we_X11_cut : Cond.selects RX11 yX11_cut yX11_cut ∈ x_TT := x_TT_of (tq_4 (List.mem_of_getElem? (i := 191) rfl)) rfl
theorem we_X11_day : Cond.selects RX11 yX11_day yX11_day ∈ x_TT := x_TT_of (tq_4 (List.mem_of_getElem? (i := 211) rfl)) rfl
theorem we_X11_does : Cond.selects RX11 yX11_does yX11_does ∈ x_TT := x_TT_of (tq_4 (List.mem_of_getElem? (i := 157) rfl)) rfl
theorem we_X11_end : Cond.selects RX11 yX11_end yX11_end ∈ x_TT := x_TT_of (tq_3 (List.mem_of_getElem? (i := 24) rfl)) rfl
theorem we_X11_fault : Cond.selects RX11 yX11_fault yX11_fault ∈ x_TT := x_TT_of (tq_4 (List.mem_of_getElem? (i := 109) rfl)) rfl
theorem we_X11_feed : Cond.selects RX11 yX11_feed yX11_feed ∈ x_TT := x_TT_of (tq_3 (List.mem_of_getElem? (i := 16) rfl)) rfl
theorem we_X11_first : Cond.selects RX11 yX11_first yX11_first ∈ x_TT := x_TT_of (tq_5 (List.mem_of_getElem? (i := 158) rfl)) rfl
theorem we_X11_free : Cond.selects RX11 yX11_free yX11_free ∈ x_TT := x_TT_of (tq_4 (List.mem_of_getElem? (i := 137) rfl)) rfl
theorem we_X11_holds : Cond.selects RX11 yX11_holds yX11_holds ∈ x_TT := x_TT_of (tq_5 (List.mem_of_getElem? (i := 129) rfl)) rfl
theorem we_X11_image : Cond.selects RX11 yX11_image yX11_image ∈ x_TT := x_TT_of (tq_6 (List.mem_of_getElem? (i := 28) rfl)) rfl
theorem we_X11_isButtonOn : Cond.selects RX11 yX11_isButtonOn yX11_isButtonOn ∈ x_TT := x_TT_of (tp_3 (List.mem_of_getElem? (i := 0) rfl)) rfl
theorem we_X11_keep : Cond.selects RX11 yX11_keep yX11_keep ∈ x_TT := x_TT_of (tq_5 (List.mem_of_getElem? (i := 41) rfl)) rfl
theorem we_X11_later : Cond.selects RX11 yX11_later yX11_later ∈ x_TT := x_TT_of (tq_5 (List.mem_of_getElem? (i := 238) rfl)) rfl
theorem we_X11_layDown : Cond.selects RX11 yX11_layDown yX11_layDown ∈ x_TT := x_TT_of (tp_3 (List.mem_of_getElem? (i := 7) rfl)) rfl
theorem we_X11_layOut : Cond.selects RX11 yX11_layOut yX11_layOut ∈ x_TT := x_TT_of (tp_3 (List.mem_of_getElem? (i := 6) rfl)) rfl
theorem we_X11_leave : Cond.selects RX11 yX11_leave yX11_leave ∈ x_TT := x_TT_of (tq_5 (List.mem_of_getElem? (i := 116) rfl)) rfl
theorem we_X11_lies : Cond.selects RX11 yX11_lies yX11_lies ∈ x_TT := x_TT_of (tq_5 (List.mem_of_getElem? (i := 218) rfl)) rfl
theorem we_X11_likes : Cond.selects RX11 yX11_likes yX11_likes ∈ x_TT := x_TT_of (tq_5 (List.mem_of_getElem? (i := 213) rfl)) rfl
theorem we_X11_many : Cond.selects RX11 yX11_many yX11_many ∈ x_TT := x_TT_of (tq_4 (List.mem_of_getElem? (i := 153) rfl)) rfl
theorem we_X11_odds : Cond.selects RX11 yX11_odds yX11_odds ∈ x_TT := x_TT_of (tq_5 (List.mem_of_getElem? (i := 141) rfl)) rfl
theorem we_X11_putOnTape : Cond.selects RX11 yX11_putOnTape yX11_putOnTape ∈ x_TT := x_TT_of (tp_1 (List.mem_of_getElem? (i := 1) rfl)) rfl
theorem we_X11_redo : Cond.selects RX11 yX11_redo yX11_redo ∈ x_TT := x_TT_of (tq_5 (List.mem_of_getElem? (i := 33) rfl)) rfl
theorem we_X11_regiment : Cond.selects RX11 yX11_regiment yX11_regiment ∈ x_TT := x_TT_of (tq_3 (List.mem_of_getElem? (i := 28) rfl)) rfl
theorem we_X11_rest : Cond.selects RX11 yX11_rest yX11_rest ∈ x_TT := x_TT_of (tq_5 (List.mem_of_getElem? (i := 86) rfl)) rfl
theorem we_X11_sew : Cond.selects RX11 yX11_sew yX11_sew ∈ x_TT := x_TT_of (tq_4 (List.mem_of_getElem? (i := 203) rfl)) rfl
theorem we_X11_swore : Cond.selects RX11 yX11_swore yX11_swore ∈ x_TT := x_TT_of (tq_6 (List.mem_of_getElem? (i := 3) rfl)) rfl
theorem we_X11_sworn : Cond.selects RX11 yX11_sworn yX11_sworn ∈ x_TT := x_TT_of (tq_4 (List.mem_of_getElem? (i := 145) rfl)) rfl
theorem we_X11_ties : Cond.selects RX11 yX11_ties yX11_ties ∈ x_TT := x_TT_of (tq_5 (List.mem_of_getElem? (i := 95) rfl)) rfl
theorem we_X11_truce : Cond.selects RX11 yX11_truce yX11_truce ∈ x_TT := x_TT_of (tq_5 (List.mem_of_getElem? (i := 179) rfl)) rfl
theorem we_X11_tug : Cond.selects RX11 yX11_tug yX11_tug ∈ x_TT := x_TT_of (tq_5 (List.mem_of_getElem? (i := 222) rfl)) rfl
theorem we_X11_undo : Cond.selects RX11 yX11_undo yX11_undo ∈ x_TT := x_TT_of (tq_5 (List.mem_of_getElem? (i := 21) rfl)) rfl
theorem we_X11_undoes : Cond.selects RX11 yX11_undoes yX11_undoes ∈ x_TT := x_TT_of (tq_4 (List.mem_of_getElem? (i := 173) rfl)) rfl
theorem we_X11_untell : Cond.selects RX11 yX11_untell yX11_untell ∈ x_TT := x_TT_of (tq_5 (List.mem_of_getElem? (i := 230) rfl)) rfl
theorem we_X11_will : Cond.selects RX11 yX11_will yX11_will ∈ x_TT := x_TT_of (tq_5 (List.mem_of_getElem? (i := 166) rfl)) rfl
theorem we_X12_about : Cond.selects RX12 yX12_about yX12_about ∈ x_TT := x_TT_of (tq_9 (List.mem_of_getElem? (i := 90) rfl)) rfl
theorem we_X12_act : Cond.selects RX12 yX12_act yX12_act ∈ x_TT := x_TT_of (tp_6 (List.mem_of_getElem? (i := 5) rfl)) rfl
theorem we_X12_add : Cond.selects RX12 yX12_add yX12_add ∈ x_TT := x_TT_of (tp_5 (List.mem_of_getElem? (i := 12) rfl)) rfl
theorem we_X12_ask : Cond.selects RX12 yX12_ask yX12_ask ∈ x_TT := x_TT_of (tq_9 (List.mem_of_getElem? (i := 70) rfl)) rfl
theorem we_X12_asked : Cond.selects RX12 yX12_asked yX12_asked ∈ x_TT := x_TT_of (tp_5 (List.mem_of_getElem? (i := 11) rfl)) rfl
theorem we_X12_asked_ : Cond.selects RX12 yX12_asked_ yX12_asked_ ∈ x_TT := x_TT_of (tq_8 (List.mem_of_getElem? (i := 207) rfl)) rfl
theorem we_X12_back : Cond.selects RX12 yX12_back yX12_back ∈ x_TT := x_TT_of (tq_9 (List.mem_of_getElem? (i := 86) rfl)) rfl
theorem we_X12_beginOrder : Cond.selects RX12 yX12_beginOrder yX12_beginOrder ∈ x_TT := x_TT_of (tp_6 (List.mem_of_getElem? (i := 11) rfl)) rfl
theorem we_X12_button : Cond.selects RX12 yX12_button yX12_button ∈ x_TT := x_TT_of (tq_8 (List.mem_of_getElem? (i := 49) rfl)) rfl
theorem we_X12_calm : Cond.selects RX12 yX12_calm yX12_calm ∈ x_TT := x_TT_of (tq_9 (List.mem_of_getElem? (i := 29) rfl)) rfl
theorem we_X12_canPut : Cond.selects RX12 yX12_canPut yX12_canPut ∈ x_TT := x_TT_of (tp_6 (List.mem_of_getElem? (i := 13) rfl)) rfl
theorem we_X12_clash : Cond.selects RX12 yX12_clash yX12_clash ∈ x_TT := x_TT_of (tq_8 (List.mem_of_getElem? (i := 191) rfl)) rfl
theorem we_X12_close : Cond.selects RX12 yX12_close yX12_close ∈ x_TT := x_TT_of (tp_5 (List.mem_of_getElem? (i := 15) rfl)) rfl
theorem we_X12_coat : Cond.selects RX12 yX12_coat yX12_coat ∈ x_TT := x_TT_of (tq_8 (List.mem_of_getElem? (i := 60) rfl)) rfl
theorem we_X12_countUnit : Cond.selects RX12 yX12_countUnit yX12_countUnit ∈ x_TT := x_TT_of (tp_5 (List.mem_of_getElem? (i := 10) rfl)) rfl
theorem we_X12_cut : Cond.selects RX12 yX12_cut yX12_cut ∈ x_TT := x_TT_of (tq_8 (List.mem_of_getElem? (i := 101) rfl)) rfl
theorem we_X12_day : Cond.selects RX12 yX12_day yX12_day ∈ x_TT := x_TT_of (tq_8 (List.mem_of_getElem? (i := 109) rfl)) rfl
theorem we_X12_daysOf : Cond.selects RX12 yX12_daysOf yX12_daysOf ∈ x_TT := x_TT_of (tp_7 (List.mem_of_getElem? (i := 7) rfl)) rfl
theorem we_X12_does : Cond.selects RX12 yX12_does yX12_does ∈ x_TT := x_TT_of (tq_8 (List.mem_of_getElem? (i := 89) rfl)) rfl
theorem we_X12_doneOn : Cond.selects RX12 yX12_doneOn yX12_doneOn ∈ x_TT := x_TT_of (tp_6 (List.mem_of_getElem? (i := 14) rfl)) rfl
theorem we_X12_end : Cond.selects RX12 yX12_end yX12_end ∈ x_TT := x_TT_of (tq_7 (List.mem_of_getElem? (i := 116) rfl)) rfl
theorem we_X12_exchange : Cond.selects RX12 yX12_exchange yX12_exchange ∈ x_TT := x_TT_of (tp_6 (List.mem_of_getElem? (i := 9) rfl)) rfl
theorem we_X12_fault : Cond.selects RX12 yX12_fault yX12_fault ∈ x_TT := x_TT_of (tq_8 (List.mem_of_getElem? (i := 45) rfl)) rfl
theorem we_X12_feed : Cond.selects RX12 yX12_feed yX12_feed ∈ x_TT := x_TT_of (tq_7 (List.mem_of_getElem? (i := 108) rfl)) rfl
theorem we_X12_find : Cond.selects RX12 yX12_find yX12_find ∈ x_TT := x_TT_of (tp_4 (List.mem_of_getElem? (i := 12) rfl)) rfl
theorem we_X12_first : Cond.selects RX12 yX12_first yX12_first ∈ x_TT := x_TT_of (tq_8 (List.mem_of_getElem? (i := 232) rfl)) rfl
theorem we_X12_four : Cond.selects RX12 yX12_four yX12_four ∈ x_TT := x_TT_of (tp_4 (List.mem_of_getElem? (i := 1) rfl)) rfl
theorem we_X12_free : Cond.selects RX12 yX12_free yX12_free ∈ x_TT := x_TT_of (tq_8 (List.mem_of_getElem? (i := 68) rfl)) rfl
theorem we_X12_goDay : Cond.selects RX12 yX12_goDay yX12_goDay ∈ x_TT := x_TT_of (tp_6 (List.mem_of_getElem? (i := 7) rfl)) rfl
theorem we_X12_has : Cond.selects RX12 yX12_has yX12_has ∈ x_TT := x_TT_of (tp_7 (List.mem_of_getElem? (i := 11) rfl)) rfl
theorem we_X12_hasBracket : Cond.selects RX12 yX12_hasBracket yX12_hasBracket ∈ x_TT := x_TT_of (tp_5 (List.mem_of_getElem? (i := 14) rfl)) rfl
theorem we_X12_hasRelation : Cond.selects RX12 yX12_hasRelation yX12_hasRelation ∈ x_TT := x_TT_of (tp_6 (List.mem_of_getElem? (i := 0) rfl)) rfl
theorem we_X12_here : Cond.selects RX12 yX12_here yX12_here ∈ x_TT := x_TT_of (tp_4 (List.mem_of_getElem? (i := 4) rfl)) rfl
theorem we_X12_holds : Cond.selects RX12 yX12_holds yX12_holds ∈ x_TT := x_TT_of (tq_8 (List.mem_of_getElem? (i := 211) rfl)) rfl
theorem we_X12_image : Cond.selects RX12 yX12_image yX12_image ∈ x_TT := x_TT_of (tq_9 (List.mem_of_getElem? (i := 79) rfl)) rfl
theorem we_X12_isAhead : Cond.selects RX12 yX12_isAhead yX12_isAhead ∈ x_TT := x_TT_of (tp_7 (List.mem_of_getElem? (i := 2) rfl)) rfl
theorem we_X12_isBetter : Cond.selects RX12 yX12_isBetter yX12_isBetter ∈ x_TT := x_TT_of (tp_7 (List.mem_of_getElem? (i := 1) rfl)) rfl
theorem we_X12_isButton : Cond.selects RX12 yX12_isButton yX12_isButton ∈ x_TT := x_TT_of (tp_6 (List.mem_of_getElem? (i := 1) rfl)) rfl
theorem we_X12_isCalm : Cond.selects RX12 yX12_isCalm yX12_isCalm ∈ x_TT := x_TT_of (tp_7 (List.mem_of_getElem? (i := 13) rfl)) rfl
theorem we_X12_isDeed : Cond.selects RX12 yX12_isDeed yX12_isDeed ∈ x_TT := x_TT_of (tp_6 (List.mem_of_getElem? (i := 3) rfl)) rfl
theorem we_X12_isForbidden : Cond.selects RX12 yX12_isForbidden yX12_isForbidden ∈ x_TT := x_TT_of (tp_6 (List.mem_of_getElem? (i := 15) rfl)) rfl
theorem we_X12_isFull : Cond.selects RX12 yX12_isFull yX12_isFull ∈ x_TT := x_TT_of (tp_5 (List.mem_of_getElem? (i := 9) rfl)) rfl
theorem we_X12_isMan : Cond.selects RX12 yX12_isMan yX12_isMan ∈ x_TT := x_TT_of (tp_6 (List.mem_of_getElem? (i := 2) rfl)) rfl
theorem we_X12_isName : Cond.selects RX12 yX12_isName yX12_isName ∈ x_TT := x_TT_of (tp_4 (List.mem_of_getElem? (i := 9) rfl)) rfl
theorem we_X12_isOn : Cond.selects RX12 yX12_isOn yX12_isOn ∈ x_TT := x_TT_of (tp_6 (List.mem_of_getElem? (i := 4) rfl)) rfl
theorem we_X12_isOwn : Cond.selects RX12 yX12_isOwn yX12_isOwn ∈ x_TT := x_TT_of (tp_4 (List.mem_of_getElem? (i := 10) rfl)) rfl
theorem we_X12_isTold : Cond.selects RX12 yX12_isTold yX12_isTold ∈ x_TT := x_TT_of (tp_7 (List.mem_of_getElem? (i := 10) rfl)) rfl
theorem we_X12_isWord : Cond.selects RX12 yX12_isWord yX12_isWord ∈ x_TT := x_TT_of (tp_4 (List.mem_of_getElem? (i := 6) rfl)) rfl
theorem we_X12_keep : Cond.selects RX12 yX12_keep yX12_keep ∈ x_TT := x_TT_of (tq_8 (List.mem_of_getElem? (i := 140) rfl)) rfl
theorem we_X12_keptOf : Cond.selects RX12 yX12_keptOf yX12_keptOf ∈ x_TT := x_TT_of (tp_7 (List.mem_of_getElem? (i := 0) rfl)) rfl
theorem we_X12_later : Cond.selects RX12 yX12_later yX12_later ∈ x_TT := x_TT_of (tq_9 (List.mem_of_getElem? (i := 53) rfl)) rfl
theorem we_X12_layBest : Cond.selects RX12 yX12_layBest yX12_layBest ∈ x_TT := x_TT_of (tp_6 (List.mem_of_getElem? (i := 10) rfl)) rfl
theorem we_X12_layCanKeep : Cond.selects RX12 yX12_layCanKeep yX12_layCanKeep ∈ x_TT := x_TT_of (tp_7 (List.mem_of_getElem? (i := 3) rfl)) rfl
theorem we_X12_layTwos : Cond.selects RX12 yX12_layTwos yX12_layTwos ∈ x_TT := x_TT_of (tp_7 (List.mem_of_getElem? (i := 9) rfl)) rfl
theorem we_X12_leave : Cond.selects RX12 yX12_leave yX12_leave ∈ x_TT := x_TT_of (tq_8 (List.mem_of_getElem? (i := 199) rfl)) rfl
theorem we_X12_leaving : Cond.selects RX12 yX12_leaving yX12_leaving ∈ x_TT := x_TT_of (tp_7 (List.mem_of_getElem? (i := 4) rfl)) rfl
theorem we_X12_lies : Cond.selects RX12 yX12_lies yX12_lies ∈ x_TT := x_TT_of (tq_9 (List.mem_of_getElem? (i := 41) rfl)) rfl
theorem we_X12_likes : Cond.selects RX12 yX12_likes yX12_likes ∈ x_TT := x_TT_of (tq_9 (List.mem_of_getElem? (i := 37) rfl)) rfl
theorem we_X12_load : Cond.selects RX12 yX12_load yX12_load ∈ x_TT := x_TT_of (tp_6 (List.mem_of_getElem? (i := 6) rfl)) rfl
theorem we_X12_many : Cond.selects RX12 yX12_many yX12_many ∈ x_TT := x_TT_of (tq_8 (List.mem_of_getElem? (i := 85) rfl)) rfl
theorem we_X12_markOf : Cond.selects RX12 yX12_markOf yX12_markOf ∈ x_TT := x_TT_of (tp_7 (List.mem_of_getElem? (i := 15) rfl)) rfl
theorem we_X12_mayNot : Cond.selects RX12 yX12_mayNot yX12_mayNot ∈ x_TT := x_TT_of (tp_5 (List.mem_of_getElem? (i := 7) rfl)) rfl
theorem we_X12_mostLeft : Cond.selects RX12 yX12_mostLeft yX12_mostLeft ∈ x_TT := x_TT_of (tp_8 (List.mem_of_getElem? (i := 0) rfl)) rfl
theorem we_X12_newName : Cond.selects RX12 yX12_newName yX12_newName ∈ x_TT := x_TT_of (tp_4 (List.mem_of_getElem? (i := 8) rfl)) rfl
theorem we_X12_nextOrder : Cond.selects RX12 yX12_nextOrder yX12_nextOrder ∈ x_TT := x_TT_of (tp_6 (List.mem_of_getElem? (i := 12) rfl)) rfl
theorem we_X12_odds : Cond.selects RX12 yX12_odds yX12_odds ∈ x_TT := x_TT_of (tq_8 (List.mem_of_getElem? (i := 219) rfl)) rfl
theorem we_X12_oldName : Cond.selects RX12 yX12_oldName yX12_oldName ∈ x_TT := x_TT_of (tp_5 (List.mem_of_getElem? (i := 3) rfl)) rfl
theorem we_X12_openUp : Cond.selects RX12 yX12_openUp yX12_openUp ∈ x_TT := x_TT_of (tp_5 (List.mem_of_getElem? (i := 8) rfl)) rfl
theorem we_X12_option : Cond.selects RX12 yX12_option yX12_option ∈ x_TT := x_TT_of (tp_4 (List.mem_of_getElem? (i := 13) rfl)) rfl
theorem we_X12_putTwos : Cond.selects RX12 yX12_putTwos yX12_putTwos ∈ x_TT := x_TT_of (tp_7 (List.mem_of_getElem? (i := 12) rfl)) rfl
theorem we_X12_readAll : Cond.selects RX12 yX12_readAll yX12_readAll ∈ x_TT := x_TT_of (tp_4 (List.mem_of_getElem? (i := 2) rfl)) rfl
theorem we_X12_readButton : Cond.selects RX12 yX12_readButton yX12_readButton ∈ x_TT := x_TT_of (tp_5 (List.mem_of_getElem? (i := 2) rfl)) rfl
theorem we_X12_readDeed : Cond.selects RX12 yX12_readDeed yX12_readDeed ∈ x_TT := x_TT_of (tp_5 (List.mem_of_getElem? (i := 1) rfl)) rfl
theorem we_X12_readFriend : Cond.selects RX12 yX12_readFriend yX12_readFriend ∈ x_TT := x_TT_of (tp_5 (List.mem_of_getElem? (i := 4) rfl)) rfl
theorem we_X12_readLine : Cond.selects RX12 yX12_readLine yX12_readLine ∈ x_TT := x_TT_of (tp_4 (List.mem_of_getElem? (i := 5) rfl)) rfl
theorem we_X12_readMan : Cond.selects RX12 yX12_readMan yX12_readMan ∈ x_TT := x_TT_of (tp_4 (List.mem_of_getElem? (i := 7) rfl)) rfl
theorem we_X12_readWear : Cond.selects RX12 yX12_readWear yX12_readWear ∈ x_TT := x_TT_of (tp_5 (List.mem_of_getElem? (i := 5) rfl)) rfl
theorem we_X12_redo : Cond.selects RX12 yX12_redo yX12_redo ∈ x_TT := x_TT_of (tq_8 (List.mem_of_getElem? (i := 136) rfl)) rfl
theorem we_X12_regiment : Cond.selects RX12 yX12_regiment yX12_regiment ∈ x_TT := x_TT_of (tq_7 (List.mem_of_getElem? (i := 120) rfl)) rfl
theorem we_X12_rest : Cond.selects RX12 yX12_rest yX12_rest ∈ x_TT := x_TT_of (tq_8 (List.mem_of_getElem? (i := 183) rfl)) rfl
theorem we_X12_rowsOf : Cond.selects RX12 yX12_rowsOf yX12_rowsOf ∈ x_TT := x_TT_of (tp_7 (List.mem_of_getElem? (i := 8) rfl)) rfl
theorem we_X12_sew : Cond.selects RX12 yX12_sew yX12_sew ∈ x_TT := x_TT_of (tq_8 (List.mem_of_getElem? (i := 105) rfl)) rfl
theorem we_X12_sign : Cond.selects RX12 yX12_sign yX12_sign ∈ x_TT := x_TT_of (tp_5 (List.mem_of_getElem? (i := 13) rfl)) rfl
theorem we_X12_swears : Cond.selects RX12 yX12_swears yX12_swears ∈ x_TT := x_TT_of (tp_7 (List.mem_of_getElem? (i := 14) rfl)) rfl
theorem we_X12_swore : Cond.selects RX12 yX12_swore yX12_swore ∈ x_TT := x_TT_of (tq_9 (List.mem_of_getElem? (i := 58) rfl)) rfl
theorem we_X12_sworn : Cond.selects RX12 yX12_sworn yX12_sworn ∈ x_TT := x_TT_of (tq_8 (List.mem_of_getElem? (i := 73) rfl)) rfl
theorem we_X12_threadBy : Cond.selects RX12 yX12_threadBy yX12_threadBy ∈ x_TT := x_TT_of (tp_7 (List.mem_of_getElem? (i := 6) rfl)) rfl
theorem we_X12_threadSame : Cond.selects RX12 yX12_threadSame yX12_threadSame ∈ x_TT := x_TT_of (tp_7 (List.mem_of_getElem? (i := 5) rfl)) rfl
theorem we_X12_ties : Cond.selects RX12 yX12_ties yX12_ties ∈ x_TT := x_TT_of (tq_8 (List.mem_of_getElem? (i := 187) rfl)) rfl
theorem we_X12_token : Cond.selects RX12 yX12_token yX12_token ∈ x_TT := x_TT_of (tp_4 (List.mem_of_getElem? (i := 3) rfl)) rfl
theorem we_X12_told : Cond.selects RX12 yX12_told yX12_told ∈ x_TT := x_TT_of (tp_4 (List.mem_of_getElem? (i := 14) rfl)) rfl
theorem we_X12_toldNumber : Cond.selects RX12 yX12_toldNumber yX12_toldNumber ∈ x_TT := x_TT_of (tp_5 (List.mem_of_getElem? (i := 0) rfl)) rfl
theorem we_X12_truce : Cond.selects RX12 yX12_truce yX12_truce ∈ x_TT := x_TT_of (tq_9 (List.mem_of_getElem? (i := 5) rfl)) rfl
theorem we_X12_tug : Cond.selects RX12 yX12_tug yX12_tug ∈ x_TT := x_TT_of (tq_9 (List.mem_of_getElem? (i := 45) rfl)) rfl
theorem we_X12_undo : Cond.selects RX12 yX12_undo yX12_undo ∈ x_TT := x_TT_of (tq_8 (List.mem_of_getElem? (i := 128) rfl)) rfl
theorem we_X12_undoes : Cond.selects RX12 yX12_undoes yX12_undoes ∈ x_TT := x_TT_of (tq_8 (List.mem_of_getElem? (i := 97) rfl)) rfl
theorem we_X12_unit : Cond.selects RX12 yX12_unit yX12_unit ∈ x_TT := x_TT_of (tp_5 (List.mem_of_getElem? (i := 6) rfl)) rfl
theorem we_X12_untell : Cond.selects RX12 yX12_untell yX12_untell ∈ x_TT := x_TT_of (tq_9 (List.mem_of_getElem? (i := 49) rfl)) rfl
theorem we_X12_want : Cond.selects RX12 yX12_want yX12_want ∈ x_TT := x_TT_of (tp_4 (List.mem_of_getElem? (i := 15) rfl)) rfl
theorem we_X12_wearOf : Cond.selects RX12 yX12_wearOf yX12_wearOf ∈ x_TT := x_TT_of (tp_6 (List.mem_of_getElem? (i := 8) rfl)) rfl
theorem we_X12_will : Cond.selects RX12 yX12_will yX12_will ∈ x_TT := x_TT_of (tq_9 (List.mem_of_getElem? (i := 1) rfl)) rfl
theorem we_X12_wrong : Cond.selects RX12 yX12_wrong yX12_wrong ∈ x_TT := x_TT_of (tp_4 (List.mem_of_getElem? (i := 11) rfl)) rfl
theorem we_X1_inputSign : Cond.selects RX1 yX1_inputSign yX1_inputSign ∈ x_TT := x_TT_of (tp_2 (List.mem_of_getElem? (i := 11) rfl)) rfl
theorem we_X1_isTermSign : Cond.selects RX1 yX1_isTermSign yX1_isTermSign ∈ x_TT := x_TT_of (tp_2 (List.mem_of_getElem? (i := 12) rfl)) rfl
theorem we_X1_readBoth : Cond.selects RX1 yX1_readBoth yX1_readBoth ∈ x_TT := x_TT_of (tp_2 (List.mem_of_getElem? (i := 4) rfl)) rfl
theorem we_X1_readBracket : Cond.selects RX1 yX1_readBracket yX1_readBracket ∈ x_TT := x_TT_of (tp_2 (List.mem_of_getElem? (i := 10) rfl)) rfl
theorem we_X1_readEither : Cond.selects RX1 yX1_readEither yX1_readEither ∈ x_TT := x_TT_of (tp_2 (List.mem_of_getElem? (i := 3) rfl)) rfl
theorem we_X1_readFormula : Cond.selects RX1 yX1_readFormula yX1_readFormula ∈ x_TT := x_TT_of (tq_4 (List.mem_of_getElem? (i := 19) rfl)) rfl
theorem we_X1_readNot : Cond.selects RX1 yX1_readNot yX1_readNot ∈ x_TT := x_TT_of (tp_2 (List.mem_of_getElem? (i := 6) rfl)) rfl
theorem we_X1_readOne : Cond.selects RX1 yX1_readOne yX1_readOne ∈ x_TT := x_TT_of (tp_2 (List.mem_of_getElem? (i := 5) rfl)) rfl
theorem we_X1_readSum : Cond.selects RX1 yX1_readSum yX1_readSum ∈ x_TT := x_TT_of (tp_2 (List.mem_of_getElem? (i := 7) rfl)) rfl
theorem we_X1_readTerm : Cond.selects RX1 yX1_readTerm yX1_readTerm ∈ x_TT := x_TT_of (tp_2 (List.mem_of_getElem? (i := 8) rfl)) rfl
theorem we_X1_readUnit : Cond.selects RX1 yX1_readUnit yX1_readUnit ∈ x_TT := x_TT_of (tp_2 (List.mem_of_getElem? (i := 9) rfl)) rfl
theorem we_X2_addAct : Cond.selects RX2 yX2_addAct yX2_addAct ∈ x_TT := x_TT_of (tq_4 (List.mem_of_getElem? (i := 169) rfl)) rfl
theorem we_X2_emptyBoxes : Cond.selects RX2 yX2_emptyBoxes yX2_emptyBoxes ∈ x_TT := x_TT_of (tq_4 (List.mem_of_getElem? (i := 101) rfl)) rfl
theorem we_X2_fillBox : Cond.selects RX2 yX2_fillBox yX2_fillBox ∈ x_TT := x_TT_of (tq_6 (List.mem_of_getElem? (i := 32) rfl)) rfl
theorem we_X2_forgetActs : Cond.selects RX2 yX2_forgetActs yX2_forgetActs ∈ x_TT := x_TT_of (tq_2 (List.mem_of_getElem? (i := 202) rfl)) rfl
theorem we_X2_openBox : Cond.selects RX2 yX2_openBox yX2_openBox ∈ x_TT := x_TT_of (tq_6 (List.mem_of_getElem? (i := 40) rfl)) rfl
theorem we_X2_readRow : Cond.selects RX2 yX2_readRow yX2_readRow ∈ x_TT := x_TT_of (tp_3 (List.mem_of_getElem? (i := 2) rfl)) rfl
theorem we_X2_stepBack : Cond.selects RX2 yX2_stepBack yX2_stepBack ∈ x_TT := x_TT_of (tq_5 (List.mem_of_getElem? (i := 25) rfl)) rfl
theorem we_X2_stepOn : Cond.selects RX2 yX2_stepOn yX2_stepOn ∈ x_TT := x_TT_of (tq_5 (List.mem_of_getElem? (i := 37) rfl)) rfl
theorem we_X2_writeRow : Cond.selects RX2 yX2_writeRow yX2_writeRow ∈ x_TT := x_TT_of (tp_1 (List.mem_of_getElem? (i := 0) rfl)) rfl
theorem we_X3_findBest : Cond.selects RX3 yX3_findBest yX3_findBest ∈ x_TT := x_TT_of (tq_5 (List.mem_of_getElem? (i := 50) rfl)) rfl
theorem we_X3_firstBestDeed : Cond.selects RX3 yX3_firstBestDeed yX3_firstBestDeed ∈ x_TT := x_TT_of (tp_3 (List.mem_of_getElem? (i := 5) rfl)) rfl
theorem we_X3_followBest : Cond.selects RX3 yX3_followBest yX3_followBest ∈ x_TT := x_TT_of (tq_5 (List.mem_of_getElem? (i := 69) rfl)) rfl
theorem we_X3_keptBy : Cond.selects RX3 yX3_keptBy yX3_keptBy ∈ x_TT := x_TT_of (tp_3 (List.mem_of_getElem? (i := 4) rfl)) rfl
theorem we_X3_lookAt : Cond.selects RX3 yX3_lookAt yX3_lookAt ∈ x_TT := x_TT_of (tq_5 (List.mem_of_getElem? (i := 45) rfl)) rfl
theorem we_X3_markKeepable : Cond.selects RX3 yX3_markKeepable yX3_markKeepable ∈ x_TT := x_TT_of (tp_3 (List.mem_of_getElem? (i := 8) rfl)) rfl
theorem we_X3_markOrders : Cond.selects RX3 yX3_markOrders yX3_markOrders ∈ x_TT := x_TT_of (tp_3 (List.mem_of_getElem? (i := 9) rfl)) rfl
theorem we_X3_mostKept : Cond.selects RX3 yX3_mostKept yX3_mostKept ∈ x_TT := x_TT_of (tq_5 (List.mem_of_getElem? (i := 90) rfl)) rfl
theorem we_X3_smallestClash : Cond.selects RX3 yX3_smallestClash yX3_smallestClash ∈ x_TT := x_TT_of (tq_5 (List.mem_of_getElem? (i := 104) rfl)) rfl
theorem we_X3_wonBy : Cond.selects RX3 yX3_wonBy yX3_wonBy ∈ x_TT := x_TT_of (tp_3 (List.mem_of_getElem? (i := 3) rfl)) rfl
theorem we_X4_find : Cond.selects RX4 yX4_find yX4_find ∈ x_TT := x_TT_of (tp_1 (List.mem_of_getElem? (i := 7) rfl)) rfl
theorem we_X4_isNewName : Cond.selects RX4 yX4_isNewName yX4_isNewName ∈ x_TT := x_TT_of (tp_1 (List.mem_of_getElem? (i := 6) rfl)) rfl
theorem we_X4_number : Cond.selects RX4 yX4_number yX4_number ∈ x_TT := x_TT_of (tp_1 (List.mem_of_getElem? (i := 9) rfl)) rfl
theorem we_X4_oldName : Cond.selects RX4 yX4_oldName yX4_oldName ∈ x_TT := x_TT_of (tp_1 (List.mem_of_getElem? (i := 13) rfl)) rfl
theorem we_X4_opens : Cond.selects RX4 yX4_opens yX4_opens ∈ x_TT := x_TT_of (tp_1 (List.mem_of_getElem? (i := 5) rfl)) rfl
theorem we_X4_opensOnce : Cond.selects RX4 yX4_opensOnce yX4_opensOnce ∈ x_TT := x_TT_of (tp_2 (List.mem_of_getElem? (i := 2) rfl)) rfl
theorem we_X4_optional : Cond.selects RX4 yX4_optional yX4_optional ∈ x_TT := x_TT_of (tp_1 (List.mem_of_getElem? (i := 8) rfl)) rfl
theorem we_X4_readAfter : Cond.selects RX4 yX4_readAfter yX4_readAfter ∈ x_TT := x_TT_of (tp_1 (List.mem_of_getElem? (i := 15) rfl)) rfl
theorem we_X4_readButton : Cond.selects RX4 yX4_readButton yX4_readButton ∈ x_TT := x_TT_of (tp_1 (List.mem_of_getElem? (i := 11) rfl)) rfl
theorem we_X4_readDeed : Cond.selects RX4 yX4_readDeed yX4_readDeed ∈ x_TT := x_TT_of (tp_1 (List.mem_of_getElem? (i := 10) rfl)) rfl
theorem we_X4_readDraw : Cond.selects RX4 yX4_readDraw yX4_readDraw ∈ x_TT := x_TT_of (tp_2 (List.mem_of_getElem? (i := 15) rfl)) rfl
theorem we_X4_readFriend : Cond.selects RX4 yX4_readFriend yX4_readFriend ∈ x_TT := x_TT_of (tp_2 (List.mem_of_getElem? (i := 0) rfl)) rfl
theorem we_X4_readHoursOfDay : Cond.selects RX4 yX4_readHoursOfDay yX4_readHoursOfDay ∈ x_TT := x_TT_of (tp_2 (List.mem_of_getElem? (i := 13) rfl)) rfl
theorem we_X4_readMan : Cond.selects RX4 yX4_readMan yX4_readMan ∈ x_TT := x_TT_of (tp_1 (List.mem_of_getElem? (i := 4) rfl)) rfl
theorem we_X4_readPromise : Cond.selects RX4 yX4_readPromise yX4_readPromise ∈ x_TT := x_TT_of (tp_1 (List.mem_of_getElem? (i := 14) rfl)) rfl
theorem we_X4_readStorm : Cond.selects RX4 yX4_readStorm yX4_readStorm ∈ x_TT := x_TT_of (tp_2 (List.mem_of_getElem? (i := 14) rfl)) rfl
theorem we_X4_readText : Cond.selects RX4 yX4_readText yX4_readText ∈ x_TT := x_TT_of (tq_3 (List.mem_of_getElem? (i := 32) rfl)) rfl
theorem we_X4_readWhose : Cond.selects RX4 yX4_readWhose yX4_readWhose ∈ x_TT := x_TT_of (tp_1 (List.mem_of_getElem? (i := 12) rfl)) rfl
theorem we_X4_readWorth : Cond.selects RX4 yX4_readWorth yX4_readWorth ∈ x_TT := x_TT_of (tp_2 (List.mem_of_getElem? (i := 1) rfl)) rfl
theorem we_X5_befriend : Cond.selects RX5 yX5_befriend yX5_befriend ∈ x_TT := x_TT_of (tq_4 (List.mem_of_getElem? (i := 11) rfl)) rfl
theorem we_X5_empty : Cond.selects RX5 yX5_empty yX5_empty ∈ x_TT := x_TT_of (tq_1 (List.mem_of_getElem? (i := 61) rfl)) rfl
theorem we_X5_hasButton : Cond.selects RX5 yX5_hasButton yX5_hasButton ∈ x_TT := x_TT_of (tq_4 (List.mem_of_getElem? (i := 117) rfl)) rfl
theorem we_X5_hasDeed : Cond.selects RX5 yX5_hasDeed yX5_hasDeed ∈ x_TT := x_TT_of (tq_4 (List.mem_of_getElem? (i := 149) rfl)) rfl
theorem we_X5_hasMan : Cond.selects RX5 yX5_hasMan yX5_hasMan ∈ x_TT := x_TT_of (tq_4 (List.mem_of_getElem? (i := 133) rfl)) rfl
theorem we_X5_takeOver : Cond.selects RX5 yX5_takeOver yX5_takeOver ∈ x_TT := x_TT_of (tq_4 (List.mem_of_getElem? (i := 89) rfl)) rfl
theorem we_X5_traitOf : Cond.selects RX5 yX5_traitOf yX5_traitOf ∈ x_TT := x_TT_of (tq_6 (List.mem_of_getElem? (i := 15) rfl)) rfl
theorem we_X5_worthOf : Cond.selects RX5 yX5_worthOf yX5_worthOf ∈ x_TT := x_TT_of (tq_3 (List.mem_of_getElem? (i := 238) rfl)) rfl
theorem we_X6_daysTillLost : Cond.selects RX6 yX6_daysTillLost yX6_daysTillLost ∈ x_TT := x_TT_of (tq_5 (List.mem_of_getElem? (i := 162) rfl)) rfl
theorem we_X6_oddsPart : Cond.selects RX6 yX6_oddsPart yX6_oddsPart ∈ x_TT := x_TT_of (tq_5 (List.mem_of_getElem? (i := 145) rfl)) rfl
theorem we_X6_stateBehind : Cond.selects RX6 yX6_stateBehind yX6_stateBehind ∈ x_TT := x_TT_of (tq_5 (List.mem_of_getElem? (i := 170) rfl)) rfl
theorem we_X6_threadBehind : Cond.selects RX6 yX6_threadBehind yX6_threadBehind ∈ x_TT := x_TT_of (tq_5 (List.mem_of_getElem? (i := 134) rfl)) rfl
theorem we_X6_waysOf : Cond.selects RX6 yX6_waysOf yX6_waysOf ∈ x_TT := x_TT_of (tp_3 (List.mem_of_getElem? (i := 10) rfl)) rfl
theorem we_X7_advance : Cond.selects RX7 yX7_advance yX7_advance ∈ x_TT := x_TT_of (tq_3 (List.mem_of_getElem? (i := 44) rfl)) rfl
theorem we_X7_isSign : Cond.selects RX7 yX7_isSign yX7_isSign ∈ x_TT := x_TT_of (tq_4 (List.mem_of_getElem? (i := 6) rfl)) rfl
theorem we_X7_isWord : Cond.selects RX7 yX7_isWord yX7_isWord ∈ x_TT := x_TT_of (tq_3 (List.mem_of_getElem? (i := 196) rfl)) rfl
theorem we_X7_open : Cond.selects RX7 yX7_open yX7_open ∈ x_TT := x_TT_of (tq_3 (List.mem_of_getElem? (i := 37) rfl)) rfl
theorem we_X7_refuse : Cond.selects RX7 yX7_refuse yX7_refuse ∈ x_TT := x_TT_of (tq_3 (List.mem_of_getElem? (i := 175) rfl)) rfl
theorem we_X7_refuseAt : Cond.selects RX7 yX7_refuseAt yX7_refuseAt ∈ x_TT := x_TT_of (tq_3 (List.mem_of_getElem? (i := 179) rfl)) rfl
theorem we_X7_takeDigits : Cond.selects RX7 yX7_takeDigits yX7_takeDigits ∈ x_TT := x_TT_of (tp_1 (List.mem_of_getElem? (i := 3) rfl)) rfl
theorem we_X7_takeLetters : Cond.selects RX7 yX7_takeLetters yX7_takeLetters ∈ x_TT := x_TT_of (tp_1 (List.mem_of_getElem? (i := 2) rfl)) rfl
theorem we_X7_takesSign : Cond.selects RX7 yX7_takesSign yX7_takesSign ∈ x_TT := x_TT_of (tq_4 (List.mem_of_getElem? (i := 63) rfl)) rfl
theorem we_X7_takesWord : Cond.selects RX7 yX7_takesWord yX7_takesWord ∈ x_TT := x_TT_of (tq_3 (List.mem_of_getElem? (i := 208) rfl)) rfl
theorem we_X8_copyWith : Cond.selects RX8 yX8_copyWith yX8_copyWith ∈ x_TT := x_TT_of (tp_3 (List.mem_of_getElem? (i := 14) rfl)) rfl
theorem we_X8_has : Cond.selects RX8 yX8_has yX8_has ∈ x_TT := x_TT_of (tp_3 (List.mem_of_getElem? (i := 13) rfl)) rfl
theorem we_X8_isCalm : Cond.selects RX8 yX8_isCalm yX8_isCalm ∈ x_TT := x_TT_of (tp_3 (List.mem_of_getElem? (i := 15) rfl)) rfl
theorem we_X8_pairFrom : Cond.selects RX8 yX8_pairFrom yX8_pairFrom ∈ x_TT := x_TT_of (tp_3 (List.mem_of_getElem? (i := 11) rfl)) rfl
theorem we_X8_tryAll : Cond.selects RX8 yX8_tryAll yX8_tryAll ∈ x_TT := x_TT_of (tq_5 (List.mem_of_getElem? (i := 183) rfl)) rfl
theorem we_X8_weigh : Cond.selects RX8 yX8_weigh yX8_weigh ∈ x_TT := x_TT_of (tp_3 (List.mem_of_getElem? (i := 12) rfl)) rfl
theorem we_X9_fits : Cond.selects RX9 yX9_fits yX9_fits ∈ x_TT := x_TT_of (tp_4 (List.mem_of_getElem? (i := 0) rfl)) rfl
theorem we_X9_forgetAll : Cond.selects RX9 yX9_forgetAll yX9_forgetAll ∈ x_TT := x_TT_of (tq_4 (List.mem_of_getElem? (i := 105) rfl)) rfl
theorem we_X9_leftAtMost : Cond.selects RX9 yX9_leftAtMost yX9_leftAtMost ∈ x_TT := x_TT_of (tq_6 (List.mem_of_getElem? (i := 23) rfl)) rfl
theorem we_X9_suspects : Cond.selects RX9 yX9_suspects yX9_suspects ∈ x_TT := x_TT_of (tq_6 (List.mem_of_getElem? (i := 7) rfl)) rfl
theorem we_X9_takeBack : Cond.selects RX9 yX9_takeBack yX9_takeBack ∈ x_TT := x_TT_of (tq_5 (List.mem_of_getElem? (i := 234) rfl)) rfl
theorem we_X9_tell : Cond.selects RX9 yX9_tell yX9_tell ∈ x_TT := x_TT_of (tq_5 (List.mem_of_getElem? (i := 226) rfl)) rfl
theorem wf_X0_109 : Cond.fieldLink RX0 109 "OathButtons$Regiment" "until" "[I" ∈ x_TT := x_TT_of (tq_1 (List.mem_of_getElem? (i := 113) rfl)) rfl
theorem wf_X0_11 : Cond.fieldLink RX0 11 "OathButtons$Coats" "now" "[I" ∈ x_TT := x_TT_of (tq_2 (List.mem_of_getElem? (i := 36) rfl)) rfl
theorem wf_X0_15 : Cond.fieldLink RX0 15 "OathButtons$Coats" "told" "LOathButtons$Regiment;" ∈ x_TT := x_TT_of (tq_2 (List.mem_of_getElem? (i := 35) rfl)) rfl
theorem wf_X0_19 : Cond.fieldLink RX0 19 "OathButtons$Regiment" "thread" "[I" ∈ x_TT := x_TT_of (tq_1 (List.mem_of_getElem? (i := 115) rfl)) rfl
theorem wf_X0_24 : Cond.fieldLink RX0 24 "OathButtons$Regiment" "draw" "I" ∈ x_TT := x_TT_of (tq_1 (List.mem_of_getElem? (i := 137) rfl)) rfl
theorem wf_X0_28 : Cond.fieldLink RX0 28 "OathButtons$Regiment" "on" "[I" ∈ x_TT := x_TT_of (tq_1 (List.mem_of_getElem? (i := 94) rfl)) rfl
theorem wf_X0_31 : Cond.fieldLink RX0 31 "OathButtons$Regiment" "after" "[I" ∈ x_TT := x_TT_of (tq_1 (List.mem_of_getElem? (i := 120) rfl)) rfl
theorem wf_X0_41 : Cond.fieldLink RX0 41 "OathButtons$Regiment" "buttons" "I" ∈ x_TT := x_TT_of (tq_1 (List.mem_of_getElem? (i := 90) rfl)) rfl
theorem wf_X0_48 : Cond.fieldLink RX0 48 "OathButtons$Regiment" "deed" "[I" ∈ x_TT := x_TT_of (tq_1 (List.mem_of_getElem? (i := 103) rfl)) rfl
theorem wf_X0_51 : Cond.fieldLink RX0 51 "OathButtons$Regiment" "promises" "[I" ∈ x_TT := x_TT_of (tq_1 (List.mem_of_getElem? (i := 108) rfl)) rfl
theorem wf_X0_79 : Cond.fieldLink RX0 79 "OathButtons$Regiment" "storm" "I" ∈ x_TT := x_TT_of (tq_1 (List.mem_of_getElem? (i := 136) rfl)) rfl
theorem wf_X0_82 : Cond.fieldLink RX0 82 "OathButtons$Regiment" "by" "[I" ∈ x_TT := x_TT_of (tq_1 (List.mem_of_getElem? (i := 98) rfl)) rfl
theorem wf_X0_88 : Cond.fieldLink RX0 88 "OathButtons$Regiment" "holes" "[I" ∈ x_TT := x_TT_of (tq_1 (List.mem_of_getElem? (i := 76) rfl)) rfl
theorem wf_X0_91 : Cond.fieldLink RX0 91 "OathButtons$Regiment" "wear" "LOathButtons$Wear;" ∈ x_TT := x_TT_of (tq_1 (List.mem_of_getElem? (i := 127) rfl)) rfl
theorem wf_X10_15 : Cond.fieldLink RX10 15 "OathButtons$Wear" "stack" "[I" ∈ x_TT := x_TT_of (tq_1 (List.mem_of_getElem? (i := 44) rfl)) rfl
theorem wf_X10_18 : Cond.fieldLink RX10 18 "OathButtons$Wear" "length" "I" ∈ x_TT := x_TT_of (tq_1 (List.mem_of_getElem? (i := 43) rfl)) rfl
theorem wf_X10_22 : Cond.fieldLink RX10 22 "OathButtons$Wear" "units" "I" ∈ x_TT := x_TT_of (tq_1 (List.mem_of_getElem? (i := 45) rfl)) rfl
theorem wf_X10_9 : Cond.fieldLink RX10 9 "OathButtons$Wear" "code" "[I" ∈ x_TT := x_TT_of (tq_1 (List.mem_of_getElem? (i := 42) rfl)) rfl
theorem wf_X11_100 : Cond.fieldLink RX11 100 "OathButtons$Reader" "tokens" "LOathButtons$Tokens;" ∈ x_TT := x_TT_of (tq_2 (List.mem_of_getElem? (i := 5) rfl)) rfl
theorem wf_X11_104 : Cond.fieldLink RX11 104 "OathButtons$Tokens" "faultKind" "I" ∈ x_TT := x_TT_of (tq_1 (List.mem_of_getElem? (i := 207) rfl)) rfl
theorem wf_X11_109 : Cond.fieldLink RX11 109 "OathButtons" "faultKind" "I" ∈ x_TT := x_TT_of (tq_2 (List.mem_of_getElem? (i := 223) rfl)) rfl
theorem wf_X11_110 : Cond.fieldLink RX11 110 "OathButtons$Tokens" "faultPlace" "I" ∈ x_TT := x_TT_of (tq_1 (List.mem_of_getElem? (i := 209) rfl)) rfl
theorem wf_X11_111 : Cond.fieldLink RX11 111 "OathButtons$Reader" "draft" "LOathButtons$Regiment;" ∈ x_TT := x_TT_of (tq_2 (List.mem_of_getElem? (i := 7) rfl)) rfl
theorem wf_X11_123 : Cond.fieldLink RX11 123 "OathButtons" "lyingCount" "I" ∈ x_TT := x_TT_of (tq_2 (List.mem_of_getElem? (i := 222) rfl)) rfl
theorem wf_X11_126 : Cond.fieldLink RX11 126 "OathButtons$Regiment" "buttons" "I" ∈ x_TT := x_TT_of (tq_1 (List.mem_of_getElem? (i := 88) rfl)) rfl
theorem wf_X11_140 : Cond.fieldLink RX11 140 "OathButtons$Regiment" "on" "[I" ∈ x_TT := x_TT_of (tq_1 (List.mem_of_getElem? (i := 92) rfl)) rfl
theorem wf_X11_143 : Cond.fieldLink RX11 143 "OathButtons$Regiment" "by" "[I" ∈ x_TT := x_TT_of (tq_1 (List.mem_of_getElem? (i := 96) rfl)) rfl
theorem wf_X11_146 : Cond.fieldLink RX11 146 "OathButtons$Regiment" "deed" "[I" ∈ x_TT := x_TT_of (tq_1 (List.mem_of_getElem? (i := 101) rfl)) rfl
theorem wf_X11_149 : Cond.fieldLink RX11 149 "OathButtons$Regiment" "promises" "[I" ∈ x_TT := x_TT_of (tq_1 (List.mem_of_getElem? (i := 106) rfl)) rfl
theorem wf_X11_152 : Cond.fieldLink RX11 152 "OathButtons$Regiment" "until" "[I" ∈ x_TT := x_TT_of (tq_1 (List.mem_of_getElem? (i := 112) rfl)) rfl
theorem wf_X11_155 : Cond.fieldLink RX11 155 "OathButtons$Regiment" "after" "[I" ∈ x_TT := x_TT_of (tq_1 (List.mem_of_getElem? (i := 118) rfl)) rfl
theorem wf_X11_16 : Cond.fieldLink RX11 16 "OathButtons" "told" "LOathButtons$Regiment;" ∈ x_TT := x_TT_of (tq_2 (List.mem_of_getElem? (i := 213) rfl)) rfl
theorem wf_X11_161 : Cond.fieldLink RX11 161 "OathButtons$Regiment" "men" "I" ∈ x_TT := x_TT_of (tq_1 (List.mem_of_getElem? (i := 71) rfl)) rfl
theorem wf_X11_218 : Cond.fieldLink RX11 218 "OathButtons$Orders" "order" "[I" ∈ x_TT := x_TT_of (tq_2 (List.mem_of_getElem? (i := 85) rfl)) rfl
theorem wf_X11_221 : Cond.fieldLink RX11 221 "OathButtons$Orders" "orderLength" "I" ∈ x_TT := x_TT_of (tq_2 (List.mem_of_getElem? (i := 87) rfl)) rfl
theorem wf_X11_228 : Cond.fieldLink RX11 228 "OathButtons$Orders" "keptBits" "I" ∈ x_TT := x_TT_of (tq_2 (List.mem_of_getElem? (i := 89) rfl)) rfl
theorem wf_X11_23 : Cond.fieldLink RX11 23 "OathButtons" "reader" "LOathButtons$Reader;" ∈ x_TT := x_TT_of (tq_2 (List.mem_of_getElem? (i := 214) rfl)) rfl
theorem wf_X11_236 : Cond.fieldLink RX11 236 "OathButtons$Orders" "hoursTogether" "I" ∈ x_TT := x_TT_of (tq_2 (List.mem_of_getElem? (i := 91) rfl)) rfl
theorem wf_X11_274 : Cond.fieldLink RX11 274 "OathButtons$Truces" "best" "[I" ∈ x_TT := x_TT_of (tq_2 (List.mem_of_getElem? (i := 139) rfl)) rfl
theorem wf_X11_277 : Cond.fieldLink RX11 277 "OathButtons$Truces" "bestWorth" "I" ∈ x_TT := x_TT_of (tq_2 (List.mem_of_getElem? (i := 141) rfl)) rfl
theorem wf_X11_280 : Cond.fieldLink RX11 280 "OathButtons$Truces" "firstCalm" "[I" ∈ x_TT := x_TT_of (tq_2 (List.mem_of_getElem? (i := 143) rfl)) rfl
theorem wf_X11_283 : Cond.fieldLink RX11 283 "OathButtons$Truces" "calmCount" "I" ∈ x_TT := x_TT_of (tq_2 (List.mem_of_getElem? (i := 145) rfl)) rfl
theorem wf_X11_289 : Cond.fieldLink RX11 289 "OathButtons$Tugs" "count" "I" ∈ x_TT := x_TT_of (tq_2 (List.mem_of_getElem? (i := 175) rfl)) rfl
theorem wf_X11_299 : Cond.fieldLink RX11 299 "OathButtons$Tugs" "time" "I" ∈ x_TT := x_TT_of (tq_2 (List.mem_of_getElem? (i := 177) rfl)) rfl
theorem wf_X11_315 : Cond.fieldLink RX11 315 "OathButtons$Regiment" "deeds" "I" ∈ x_TT := x_TT_of (tq_1 (List.mem_of_getElem? (i := 82) rfl)) rfl
theorem wf_X11_318 : Cond.fieldLink RX11 318 "OathButtons$Regiment" "friends" "I" ∈ x_TT := x_TT_of (tq_1 (List.mem_of_getElem? (i := 123) rfl)) rfl
theorem wf_X11_32 : Cond.fieldLink RX11 32 "OathButtons" "coats" "LOathButtons$Coats;" ∈ x_TT := x_TT_of (tq_2 (List.mem_of_getElem? (i := 215) rfl)) rfl
theorem wf_X11_324 : Cond.fieldLink RX11 324 "OathButtons$Regiment" "hoursOfDay" "I" ∈ x_TT := x_TT_of (tq_1 (List.mem_of_getElem? (i := 132) rfl)) rfl
theorem wf_X11_327 : Cond.fieldLink RX11 327 "OathButtons$History" "done" "I" ∈ x_TT := x_TT_of (tq_2 (List.mem_of_getElem? (i := 54) rfl)) rfl
theorem wf_X11_330 : Cond.fieldLink RX11 330 "OathButtons$History" "known" "I" ∈ x_TT := x_TT_of (tq_2 (List.mem_of_getElem? (i := 56) rfl)) rfl
theorem wf_X11_333 : Cond.fieldLink RX11 333 "OathButtons$Regiment" "wear" "LOathButtons$Wear;" ∈ x_TT := x_TT_of (tq_1 (List.mem_of_getElem? (i := 128) rfl)) rfl
theorem wf_X11_337 : Cond.fieldLink RX11 337 "OathButtons$Wear" "units" "I" ∈ x_TT := x_TT_of (tq_1 (List.mem_of_getElem? (i := 47) rfl)) rfl
theorem wf_X11_41 : Cond.fieldLink RX11 41 "OathButtons" "history" "LOathButtons$History;" ∈ x_TT := x_TT_of (tq_2 (List.mem_of_getElem? (i := 216) rfl)) rfl
theorem wf_X11_50 : Cond.fieldLink RX11 50 "OathButtons" "orders" "LOathButtons$Orders;" ∈ x_TT := x_TT_of (tq_2 (List.mem_of_getElem? (i := 217) rfl)) rfl
theorem wf_X11_57 : Cond.fieldLink RX11 57 "OathButtons" "threads" "LOathButtons$Threads;" ∈ x_TT := x_TT_of (tq_2 (List.mem_of_getElem? (i := 218) rfl)) rfl
theorem wf_X11_64 : Cond.fieldLink RX11 64 "OathButtons" "truces" "LOathButtons$Truces;" ∈ x_TT := x_TT_of (tq_2 (List.mem_of_getElem? (i := 219) rfl)) rfl
theorem wf_X11_71 : Cond.fieldLink RX11 71 "OathButtons" "tugs" "LOathButtons$Tugs;" ∈ x_TT := x_TT_of (tq_2 (List.mem_of_getElem? (i := 220) rfl)) rfl
theorem wf_X11_75 : Cond.fieldLink RX11 75 "OathButtons" "lying" "[I" ∈ x_TT := x_TT_of (tq_2 (List.mem_of_getElem? (i := 221) rfl)) rfl
theorem wf_X11_79 : Cond.fieldLink RX11 79 "OathButtons" "faultPlace" "I" ∈ x_TT := x_TT_of (tq_2 (List.mem_of_getElem? (i := 224) rfl)) rfl
theorem wf_X11_89 : Cond.fieldLink RX11 89 "OathButtons" "taped" "I" ∈ x_TT := x_TT_of (tq_2 (List.mem_of_getElem? (i := 212) rfl)) rfl
theorem wf_X11_9 : Cond.fieldLink RX11 9 "OathButtons" "tape" "[B" ∈ x_TT := x_TT_of (tq_2 (List.mem_of_getElem? (i := 211) rfl)) rfl
theorem wf_X12_102 : Cond.fieldLink RX12 102 "OathButtonsModel" "toldThread" "[I" ∈ x_TT := x_TT_of (tq_6 (List.mem_of_getElem? (i := 99) rfl)) rfl
theorem wf_X12_105 : Cond.fieldLink RX12 105 "OathButtonsModel" "after" "[I" ∈ x_TT := x_TT_of (tq_6 (List.mem_of_getElem? (i := 100) rfl)) rfl
theorem wf_X12_108 : Cond.fieldLink RX12 108 "OathButtonsModel" "nPromises" "[Z" ∈ x_TT := x_TT_of (tq_6 (List.mem_of_getElem? (i := 101) rfl)) rfl
theorem wf_X12_112 : Cond.fieldLink RX12 112 "OathButtonsModel" "promises" "[Z" ∈ x_TT := x_TT_of (tq_6 (List.mem_of_getElem? (i := 102) rfl)) rfl
theorem wf_X12_115 : Cond.fieldLink RX12 115 "OathButtonsModel" "dayHours" "I" ∈ x_TT := x_TT_of (tq_6 (List.mem_of_getElem? (i := 114) rfl)) rfl
theorem wf_X12_118 : Cond.fieldLink RX12 118 "OathButtonsModel" "now" "[I" ∈ x_TT := x_TT_of (tq_6 (List.mem_of_getElem? (i := 121) rfl)) rfl
theorem wf_X12_121 : Cond.fieldLink RX12 121 "OathButtonsModel" "were" "[I" ∈ x_TT := x_TT_of (tq_6 (List.mem_of_getElem? (i := 122) rfl)) rfl
theorem wf_X12_124 : Cond.fieldLink RX12 124 "OathButtonsModel" "state" "[I" ∈ x_TT := x_TT_of (tq_6 (List.mem_of_getElem? (i := 125) rfl)) rfl
theorem wf_X12_127 : Cond.fieldLink RX12 127 "OathButtonsModel" "thread" "[I" ∈ x_TT := x_TT_of (tq_6 (List.mem_of_getElem? (i := 126) rfl)) rfl
theorem wf_X12_13 : Cond.fieldLink RX12 13 "OathButtonsModel" "faultPlace" "I" ∈ x_TT := x_TT_of (tq_6 (List.mem_of_getElem? (i := 57) rfl)) rfl
theorem wf_X12_130 : Cond.fieldLink RX12 130 "OathButtonsModel" "order" "[I" ∈ x_TT := x_TT_of (tq_6 (List.mem_of_getElem? (i := 129) rfl)) rfl
theorem wf_X12_133 : Cond.fieldLink RX12 133 "OathButtonsModel" "spent" "[I" ∈ x_TT := x_TT_of (tq_6 (List.mem_of_getElem? (i := 130) rfl)) rfl
theorem wf_X12_136 : Cond.fieldLink RX12 136 "OathButtonsModel" "keptBy" "[I" ∈ x_TT := x_TT_of (tq_6 (List.mem_of_getElem? (i := 131) rfl)) rfl
theorem wf_X12_139 : Cond.fieldLink RX12 139 "OathButtonsModel" "bestOrder" "[I" ∈ x_TT := x_TT_of (tq_6 (List.mem_of_getElem? (i := 132) rfl)) rfl
theorem wf_X12_142 : Cond.fieldLink RX12 142 "OathButtonsModel" "lies" "[I" ∈ x_TT := x_TT_of (tq_6 (List.mem_of_getElem? (i := 138) rfl)) rfl
theorem wf_X12_145 : Cond.fieldLink RX12 145 "OathButtonsModel" "canKeep" "[Z" ∈ x_TT := x_TT_of (tq_6 (List.mem_of_getElem? (i := 140) rfl)) rfl
theorem wf_X12_148 : Cond.fieldLink RX12 148 "OathButtonsModel" "with" "[I" ∈ x_TT := x_TT_of (tq_6 (List.mem_of_getElem? (i := 141) rfl)) rfl
theorem wf_X12_151 : Cond.fieldLink RX12 151 "OathButtonsModel" "tugWhat" "[I" ∈ x_TT := x_TT_of (tq_6 (List.mem_of_getElem? (i := 142) rfl)) rfl
theorem wf_X12_154 : Cond.fieldLink RX12 154 "OathButtonsModel" "tugNumber" "[I" ∈ x_TT := x_TT_of (tq_6 (List.mem_of_getElem? (i := 143) rfl)) rfl
theorem wf_X12_157 : Cond.fieldLink RX12 157 "OathButtonsModel" "tugTold" "[I" ∈ x_TT := x_TT_of (tq_6 (List.mem_of_getElem? (i := 144) rfl)) rfl
theorem wf_X12_160 : Cond.fieldLink RX12 160 "OathButtonsModel" "tugUntold" "[I" ∈ x_TT := x_TT_of (tq_6 (List.mem_of_getElem? (i := 145) rfl)) rfl
theorem wf_X12_163 : Cond.fieldLink RX12 163 "OathButtonsModel" "tugIs" "[Z" ∈ x_TT := x_TT_of (tq_6 (List.mem_of_getElem? (i := 146) rfl)) rfl
theorem wf_X12_166 : Cond.fieldLink RX12 166 "OathButtonsModel" "hasBox" "[Z" ∈ x_TT := x_TT_of (tq_6 (List.mem_of_getElem? (i := 149) rfl)) rfl
theorem wf_X12_169 : Cond.fieldLink RX12 169 "OathButtonsModel" "boxes" "[I" ∈ x_TT := x_TT_of (tq_6 (List.mem_of_getElem? (i := 150) rfl)) rfl
theorem wf_X12_17 : Cond.fieldLink RX12 17 "OathButtonsModel" "nName" "[J" ∈ x_TT := x_TT_of (tq_6 (List.mem_of_getElem? (i := 64) rfl)) rfl
theorem wf_X12_172 : Cond.fieldLink RX12 172 "OathButtonsModel" "taped" "I" ∈ x_TT := x_TT_of (tq_6 (List.mem_of_getElem? (i := 55) rfl)) rfl
theorem wf_X12_179 : Cond.fieldLink RX12 179 "OathButtonsModel" "at" "I" ∈ x_TT := x_TT_of (tq_6 (List.mem_of_getElem? (i := 58) rfl)) rfl
theorem wf_X12_182 : Cond.fieldLink RX12 182 "OathButtonsModel" "size" "I" ∈ x_TT := x_TT_of (tq_6 (List.mem_of_getElem? (i := 59) rfl)) rfl
theorem wf_X12_189 : Cond.fieldLink RX12 189 "OathButtonsModel" "place" "I" ∈ x_TT := x_TT_of (tq_6 (List.mem_of_getElem? (i := 61) rfl)) rfl
theorem wf_X12_192 : Cond.fieldLink RX12 192 "OathButtonsModel" "word" "J" ∈ x_TT := x_TT_of (tq_6 (List.mem_of_getElem? (i := 63) rfl)) rfl
theorem wf_X12_196 : Cond.fieldLink RX12 196 "OathButtonsModel" "number" "I" ∈ x_TT := x_TT_of (tq_6 (List.mem_of_getElem? (i := 62) rfl)) rfl
theorem wf_X12_199 : Cond.fieldLink RX12 199 "OathButtonsModel" "sort" "I" ∈ x_TT := x_TT_of (tq_6 (List.mem_of_getElem? (i := 60) rfl)) rfl
theorem wf_X12_21 : Cond.fieldLink RX12 21 "OathButtonsModel" "nStep" "[I" ∈ x_TT := x_TT_of (tq_6 (List.mem_of_getElem? (i := 65) rfl)) rfl
theorem wf_X12_212 : Cond.fieldLink RX12 212 "OathButtonsModel" "fault" "I" ∈ x_TT := x_TT_of (tq_6 (List.mem_of_getElem? (i := 56) rfl)) rfl
theorem wf_X12_24 : Cond.fieldLink RX12 24 "OathButtonsModel" "nArg" "[I" ∈ x_TT := x_TT_of (tq_6 (List.mem_of_getElem? (i := 66) rfl)) rfl
theorem wf_X12_27 : Cond.fieldLink RX12 27 "OathButtonsModel" "step" "[I" ∈ x_TT := x_TT_of (tq_6 (List.mem_of_getElem? (i := 67) rfl)) rfl
theorem wf_X12_291 : Cond.fieldLink RX12 291 "OathButtonsModel" "nSteps" "I" ∈ x_TT := x_TT_of (tq_6 (List.mem_of_getElem? (i := 71) rfl)) rfl
theorem wf_X12_294 : Cond.fieldLink RX12 294 "OathButtonsModel" "opens" "I" ∈ x_TT := x_TT_of (tq_6 (List.mem_of_getElem? (i := 73) rfl)) rfl
theorem wf_X12_30 : Cond.fieldLink RX12 30 "OathButtonsModel" "arg" "[I" ∈ x_TT := x_TT_of (tq_6 (List.mem_of_getElem? (i := 68) rfl)) rfl
theorem wf_X12_304 : Cond.fieldLink RX12 304 "OathButtonsModel" "deep" "I" ∈ x_TT := x_TT_of (tq_6 (List.mem_of_getElem? (i := 77) rfl)) rfl
theorem wf_X12_307 : Cond.fieldLink RX12 307 "OathButtonsModel" "nUnits" "I" ∈ x_TT := x_TT_of (tq_6 (List.mem_of_getElem? (i := 74) rfl)) rfl
theorem wf_X12_310 : Cond.fieldLink RX12 310 "OathButtonsModel" "ownUnits" "I" ∈ x_TT := x_TT_of (tq_6 (List.mem_of_getElem? (i := 76) rfl)) rfl
theorem wf_X12_33 : Cond.fieldLink RX12 33 "OathButtonsModel" "open" "[I" ∈ x_TT := x_TT_of (tq_6 (List.mem_of_getElem? (i := 69) rfl)) rfl
theorem wf_X12_348 : Cond.fieldLink RX12 348 "OathButtonsModel" "hasWear" "Z" ∈ x_TT := x_TT_of (tq_6 (List.mem_of_getElem? (i := 120) rfl)) rfl
theorem wf_X12_352 : Cond.fieldLink RX12 352 "OathButtonsModel" "steps" "I" ∈ x_TT := x_TT_of (tq_6 (List.mem_of_getElem? (i := 72) rfl)) rfl
theorem wf_X12_359 : Cond.fieldLink RX12 359 "OathButtonsModel" "nMen" "I" ∈ x_TT := x_TT_of (tq_6 (List.mem_of_getElem? (i := 103) rfl)) rfl
theorem wf_X12_36 : Cond.fieldLink RX12 36 "OathButtonsModel" "values" "[I" ∈ x_TT := x_TT_of (tq_6 (List.mem_of_getElem? (i := 70) rfl)) rfl
theorem wf_X12_369 : Cond.fieldLink RX12 369 "OathButtonsModel" "nDeeds" "I" ∈ x_TT := x_TT_of (tq_6 (List.mem_of_getElem? (i := 104) rfl)) rfl
theorem wf_X12_372 : Cond.fieldLink RX12 372 "OathButtonsModel" "nButtons" "I" ∈ x_TT := x_TT_of (tq_6 (List.mem_of_getElem? (i := 105) rfl)) rfl
theorem wf_X12_378 : Cond.fieldLink RX12 378 "OathButtonsModel" "nFriends" "I" ∈ x_TT := x_TT_of (tq_6 (List.mem_of_getElem? (i := 106) rfl)) rfl
theorem wf_X12_39 : Cond.fieldLink RX12 39 "OathButtonsModel" "asks" "[I" ∈ x_TT := x_TT_of (tq_6 (List.mem_of_getElem? (i := 78) rfl)) rfl
theorem wf_X12_393 : Cond.fieldLink RX12 393 "OathButtonsModel" "nHasWear" "Z" ∈ x_TT := x_TT_of (tq_6 (List.mem_of_getElem? (i := 116) rfl)) rfl
theorem wf_X12_399 : Cond.fieldLink RX12 399 "OathButtonsModel" "nHasDay" "Z" ∈ x_TT := x_TT_of (tq_6 (List.mem_of_getElem? (i := 117) rfl)) rfl
theorem wf_X12_402 : Cond.fieldLink RX12 402 "OathButtonsModel" "nDay" "I" ∈ x_TT := x_TT_of (tq_6 (List.mem_of_getElem? (i := 107) rfl)) rfl
theorem wf_X12_405 : Cond.fieldLink RX12 405 "OathButtonsModel" "nHasStorm" "Z" ∈ x_TT := x_TT_of (tq_6 (List.mem_of_getElem? (i := 118) rfl)) rfl
theorem wf_X12_408 : Cond.fieldLink RX12 408 "OathButtonsModel" "nStorm" "I" ∈ x_TT := x_TT_of (tq_6 (List.mem_of_getElem? (i := 108) rfl)) rfl
theorem wf_X12_411 : Cond.fieldLink RX12 411 "OathButtonsModel" "nHasDraw" "Z" ∈ x_TT := x_TT_of (tq_6 (List.mem_of_getElem? (i := 119) rfl)) rfl
theorem wf_X12_414 : Cond.fieldLink RX12 414 "OathButtonsModel" "nDraw" "I" ∈ x_TT := x_TT_of (tq_6 (List.mem_of_getElem? (i := 109) rfl)) rfl
theorem wf_X12_42 : Cond.fieldLink RX12 42 "OathButtonsModel" "nColour" "[I" ∈ x_TT := x_TT_of (tq_6 (List.mem_of_getElem? (i := 79) rfl)) rfl
theorem wf_X12_423 : Cond.fieldLink RX12 423 "OathButtonsModel" "men" "I" ∈ x_TT := x_TT_of (tq_6 (List.mem_of_getElem? (i := 110) rfl)) rfl
theorem wf_X12_426 : Cond.fieldLink RX12 426 "OathButtonsModel" "deeds" "I" ∈ x_TT := x_TT_of (tq_6 (List.mem_of_getElem? (i := 111) rfl)) rfl
theorem wf_X12_429 : Cond.fieldLink RX12 429 "OathButtonsModel" "buttons" "I" ∈ x_TT := x_TT_of (tq_6 (List.mem_of_getElem? (i := 112) rfl)) rfl
theorem wf_X12_432 : Cond.fieldLink RX12 432 "OathButtonsModel" "friends" "I" ∈ x_TT := x_TT_of (tq_6 (List.mem_of_getElem? (i := 113) rfl)) rfl
theorem wf_X12_435 : Cond.fieldLink RX12 435 "OathButtonsModel" "storm" "I" ∈ x_TT := x_TT_of (tq_6 (List.mem_of_getElem? (i := 115) rfl)) rfl
theorem wf_X12_438 : Cond.fieldLink RX12 438 "OathButtonsModel" "units" "I" ∈ x_TT := x_TT_of (tq_6 (List.mem_of_getElem? (i := 75) rfl)) rfl
theorem wf_X12_441 : Cond.fieldLink RX12 441 "OathButtonsModel" "acts" "I" ∈ x_TT := x_TT_of (tq_6 (List.mem_of_getElem? (i := 123) rfl)) rfl
theorem wf_X12_444 : Cond.fieldLink RX12 444 "OathButtonsModel" "undone" "I" ∈ x_TT := x_TT_of (tq_6 (List.mem_of_getElem? (i := 124) rfl)) rfl
theorem wf_X12_447 : Cond.fieldLink RX12 447 "OathButtonsModel" "tugs" "I" ∈ x_TT := x_TT_of (tq_6 (List.mem_of_getElem? (i := 147) rfl)) rfl
theorem wf_X12_45 : Cond.fieldLink RX12 45 "OathButtonsModel" "nHoles" "[I" ∈ x_TT := x_TT_of (tq_6 (List.mem_of_getElem? (i := 80) rfl)) rfl
theorem wf_X12_450 : Cond.fieldLink RX12 450 "OathButtonsModel" "lain" "I" ∈ x_TT := x_TT_of (tq_6 (List.mem_of_getElem? (i := 139) rfl)) rfl
theorem wf_X12_475 : Cond.fieldLink RX12 475 "OathButtonsModel" "day" "I" ∈ x_TT := x_TT_of (tq_6 (List.mem_of_getElem? (i := 127) rfl)) rfl
theorem wf_X12_478 : Cond.fieldLink RX12 478 "OathButtonsModel" "seed" "I" ∈ x_TT := x_TT_of (tq_6 (List.mem_of_getElem? (i := 128) rfl)) rfl
theorem wf_X12_48 : Cond.fieldLink RX12 48 "OathButtonsModel" "nLeft" "[I" ∈ x_TT := x_TT_of (tq_6 (List.mem_of_getElem? (i := 81) rfl)) rfl
theorem wf_X12_494 : Cond.fieldLink RX12 494 "OathButtonsModel" "beginDay" "I" ∈ x_TT := x_TT_of (tq_6 (List.mem_of_getElem? (i := 134) rfl)) rfl
theorem wf_X12_497 : Cond.fieldLink RX12 497 "OathButtonsModel" "orderMany" "I" ∈ x_TT := x_TT_of (tq_6 (List.mem_of_getElem? (i := 133) rfl)) rfl
theorem wf_X12_51 : Cond.fieldLink RX12 51 "OathButtonsModel" "nHours" "[I" ∈ x_TT := x_TT_of (tq_6 (List.mem_of_getElem? (i := 82) rfl)) rfl
theorem wf_X12_513 : Cond.fieldLink RX12 513 "OathButtonsModel" "bestMany" "I" ∈ x_TT := x_TT_of (tq_6 (List.mem_of_getElem? (i := 135) rfl)) rfl
theorem wf_X12_519 : Cond.fieldLink RX12 519 "OathButtonsModel" "bestKept" "I" ∈ x_TT := x_TT_of (tq_6 (List.mem_of_getElem? (i := 137) rfl)) rfl
theorem wf_X12_522 : Cond.fieldLink RX12 522 "OathButtonsModel" "bestHours" "I" ∈ x_TT := x_TT_of (tq_6 (List.mem_of_getElem? (i := 136) rfl)) rfl
theorem wf_X12_54 : Cond.fieldLink RX12 54 "OathButtonsModel" "nFriend" "[I" ∈ x_TT := x_TT_of (tq_6 (List.mem_of_getElem? (i := 83) rfl)) rfl
theorem wf_X12_57 : Cond.fieldLink RX12 57 "OathButtonsModel" "colour" "[I" ∈ x_TT := x_TT_of (tq_6 (List.mem_of_getElem? (i := 84) rfl)) rfl
theorem wf_X12_582 : Cond.fieldLink RX12 582 "OathButtonsModel" "time" "I" ∈ x_TT := x_TT_of (tq_6 (List.mem_of_getElem? (i := 148) rfl)) rfl
theorem wf_X12_60 : Cond.fieldLink RX12 60 "OathButtonsModel" "holes" "[I" ∈ x_TT := x_TT_of (tq_6 (List.mem_of_getElem? (i := 85) rfl)) rfl
theorem wf_X12_63 : Cond.fieldLink RX12 63 "OathButtonsModel" "left" "[I" ∈ x_TT := x_TT_of (tq_6 (List.mem_of_getElem? (i := 86) rfl)) rfl
theorem wf_X12_66 : Cond.fieldLink RX12 66 "OathButtonsModel" "hours" "[I" ∈ x_TT := x_TT_of (tq_6 (List.mem_of_getElem? (i := 87) rfl)) rfl
theorem wf_X12_69 : Cond.fieldLink RX12 69 "OathButtonsModel" "friend" "[I" ∈ x_TT := x_TT_of (tq_6 (List.mem_of_getElem? (i := 88) rfl)) rfl
theorem wf_X12_7 : Cond.fieldLink RX12 7 "OathButtonsModel" "tape" "[I" ∈ x_TT := x_TT_of (tq_6 (List.mem_of_getElem? (i := 54) rfl)) rfl
theorem wf_X12_72 : Cond.fieldLink RX12 72 "OathButtonsModel" "nOn" "[I" ∈ x_TT := x_TT_of (tq_6 (List.mem_of_getElem? (i := 89) rfl)) rfl
theorem wf_X12_75 : Cond.fieldLink RX12 75 "OathButtonsModel" "nBy" "[I" ∈ x_TT := x_TT_of (tq_6 (List.mem_of_getElem? (i := 90) rfl)) rfl
theorem wf_X12_78 : Cond.fieldLink RX12 78 "OathButtonsModel" "nDeed" "[I" ∈ x_TT := x_TT_of (tq_6 (List.mem_of_getElem? (i := 91) rfl)) rfl
theorem wf_X12_81 : Cond.fieldLink RX12 81 "OathButtonsModel" "nUntil" "[I" ∈ x_TT := x_TT_of (tq_6 (List.mem_of_getElem? (i := 92) rfl)) rfl
theorem wf_X12_84 : Cond.fieldLink RX12 84 "OathButtonsModel" "nThread" "[I" ∈ x_TT := x_TT_of (tq_6 (List.mem_of_getElem? (i := 93) rfl)) rfl
theorem wf_X12_87 : Cond.fieldLink RX12 87 "OathButtonsModel" "nAfter" "[I" ∈ x_TT := x_TT_of (tq_6 (List.mem_of_getElem? (i := 94) rfl)) rfl
theorem wf_X12_90 : Cond.fieldLink RX12 90 "OathButtonsModel" "onMan" "[I" ∈ x_TT := x_TT_of (tq_6 (List.mem_of_getElem? (i := 95) rfl)) rfl
theorem wf_X12_93 : Cond.fieldLink RX12 93 "OathButtonsModel" "byMan" "[I" ∈ x_TT := x_TT_of (tq_6 (List.mem_of_getElem? (i := 96) rfl)) rfl
theorem wf_X12_96 : Cond.fieldLink RX12 96 "OathButtonsModel" "deedOf" "[I" ∈ x_TT := x_TT_of (tq_6 (List.mem_of_getElem? (i := 97) rfl)) rfl
theorem wf_X12_99 : Cond.fieldLink RX12 99 "OathButtonsModel" "until" "[I" ∈ x_TT := x_TT_of (tq_6 (List.mem_of_getElem? (i := 98) rfl)) rfl
theorem wf_X1_15 : Cond.fieldLink RX1 15 "OathButtons$FormulaReader" "wear" "LOathButtons$Wear;" ∈ x_TT := x_TT_of (tq_1 (List.mem_of_getElem? (i := 238) rfl)) rfl
theorem wf_X1_53 : Cond.fieldLink RX1 53 "OathButtons$Tokens" "value" "I" ∈ x_TT := x_TT_of (tq_1 (List.mem_of_getElem? (i := 203) rfl)) rfl
theorem wf_X1_70 : Cond.fieldLink RX1 70 "OathButtons$Wear" "units" "I" ∈ x_TT := x_TT_of (tq_1 (List.mem_of_getElem? (i := 46) rfl)) rfl
theorem wf_X1_76 : Cond.fieldLink RX1 76 "OathButtons$Tokens" "kind" "I" ∈ x_TT := x_TT_of (tq_1 (List.mem_of_getElem? (i := 200) rfl)) rfl
theorem wf_X1_9 : Cond.fieldLink RX1 9 "OathButtons$FormulaReader" "tokens" "LOathButtons$Tokens;" ∈ x_TT := x_TT_of (tq_1 (List.mem_of_getElem? (i := 237) rfl)) rfl
theorem wf_X2_11 : Cond.fieldLink RX2 11 "OathButtons$History" "rows" "[I" ∈ x_TT := x_TT_of (tq_2 (List.mem_of_getElem? (i := 50) rfl)) rfl
theorem wf_X2_17 : Cond.fieldLink RX2 17 "OathButtons$History" "boxes" "[I" ∈ x_TT := x_TT_of (tq_2 (List.mem_of_getElem? (i := 51) rfl)) rfl
theorem wf_X2_20 : Cond.fieldLink RX2 20 "OathButtons$History" "coats" "LOathButtons$Coats;" ∈ x_TT := x_TT_of (tq_2 (List.mem_of_getElem? (i := 49) rfl)) rfl
theorem wf_X2_24 : Cond.fieldLink RX2 24 "OathButtons$History" "done" "I" ∈ x_TT := x_TT_of (tq_2 (List.mem_of_getElem? (i := 53) rfl)) rfl
theorem wf_X2_28 : Cond.fieldLink RX2 28 "OathButtons$History" "known" "I" ∈ x_TT := x_TT_of (tq_2 (List.mem_of_getElem? (i := 55) rfl)) rfl
theorem wf_X2_43 : Cond.fieldLink RX2 43 "OathButtons$Coats" "now" "[I" ∈ x_TT := x_TT_of (tq_2 (List.mem_of_getElem? (i := 37) rfl)) rfl
theorem wf_X2_46 : Cond.fieldLink RX2 46 "OathButtons$History" "filled" "I" ∈ x_TT := x_TT_of (tq_2 (List.mem_of_getElem? (i := 52) rfl)) rfl
theorem wf_X3_103 : Cond.fieldLink RX3 103 "OathButtons$Orders" "hoursTogether" "I" ∈ x_TT := x_TT_of (tq_2 (List.mem_of_getElem? (i := 90) rfl)) rfl
theorem wf_X3_15 : Cond.fieldLink RX3 15 "OathButtons$Orders" "hoursOf" "[I" ∈ x_TT := x_TT_of (tq_2 (List.mem_of_getElem? (i := 81) rfl)) rfl
theorem wf_X3_18 : Cond.fieldLink RX3 18 "OathButtons$Orders" "best" "[I" ∈ x_TT := x_TT_of (tq_2 (List.mem_of_getElem? (i := 82) rfl)) rfl
theorem wf_X3_21 : Cond.fieldLink RX3 21 "OathButtons$Orders" "keepable" "[B" ∈ x_TT := x_TT_of (tq_2 (List.mem_of_getElem? (i := 83) rfl)) rfl
theorem wf_X3_25 : Cond.fieldLink RX3 25 "OathButtons$Orders" "order" "[I" ∈ x_TT := x_TT_of (tq_2 (List.mem_of_getElem? (i := 84) rfl)) rfl
theorem wf_X3_28 : Cond.fieldLink RX3 28 "OathButtons$Orders" "told" "LOathButtons$Regiment;" ∈ x_TT := x_TT_of (tq_2 (List.mem_of_getElem? (i := 76) rfl)) rfl
theorem wf_X3_32 : Cond.fieldLink RX3 32 "OathButtons$Orders" "coats" "LOathButtons$Coats;" ∈ x_TT := x_TT_of (tq_2 (List.mem_of_getElem? (i := 77) rfl)) rfl
theorem wf_X3_36 : Cond.fieldLink RX3 36 "OathButtons$Orders" "mineCount" "I" ∈ x_TT := x_TT_of (tq_2 (List.mem_of_getElem? (i := 79) rfl)) rfl
theorem wf_X3_40 : Cond.fieldLink RX3 40 "OathButtons$Regiment" "buttons" "I" ∈ x_TT := x_TT_of (tq_1 (List.mem_of_getElem? (i := 87) rfl)) rfl
theorem wf_X3_51 : Cond.fieldLink RX3 51 "OathButtons$Regiment" "deeds" "I" ∈ x_TT := x_TT_of (tq_1 (List.mem_of_getElem? (i := 80) rfl)) rfl
theorem wf_X3_54 : Cond.fieldLink RX3 54 "OathButtons$Regiment" "hours" "[I" ∈ x_TT := x_TT_of (tq_1 (List.mem_of_getElem? (i := 84) rfl)) rfl
theorem wf_X3_57 : Cond.fieldLink RX3 57 "OathButtons$Orders" "begin" "I" ∈ x_TT := x_TT_of (tq_2 (List.mem_of_getElem? (i := 80) rfl)) rfl
theorem wf_X3_82 : Cond.fieldLink RX3 82 "OathButtons$Regiment" "hoursOfDay" "I" ∈ x_TT := x_TT_of (tq_1 (List.mem_of_getElem? (i := 130) rfl)) rfl
theorem wf_X3_85 : Cond.fieldLink RX3 85 "OathButtons$Regiment" "deed" "[I" ∈ x_TT := x_TT_of (tq_1 (List.mem_of_getElem? (i := 100) rfl)) rfl
theorem wf_X3_88 : Cond.fieldLink RX3 88 "OathButtons$Regiment" "until" "[I" ∈ x_TT := x_TT_of (tq_1 (List.mem_of_getElem? (i := 110) rfl)) rfl
theorem wf_X3_9 : Cond.fieldLink RX3 9 "OathButtons$Orders" "mine" "[I" ∈ x_TT := x_TT_of (tq_2 (List.mem_of_getElem? (i := 78) rfl)) rfl
theorem wf_X3_91 : Cond.fieldLink RX3 91 "OathButtons$Regiment" "promises" "[I" ∈ x_TT := x_TT_of (tq_1 (List.mem_of_getElem? (i := 105) rfl)) rfl
theorem wf_X3_94 : Cond.fieldLink RX3 94 "OathButtons$Orders" "orderLength" "I" ∈ x_TT := x_TT_of (tq_2 (List.mem_of_getElem? (i := 86) rfl)) rfl
theorem wf_X3_97 : Cond.fieldLink RX3 97 "OathButtons$Orders" "keptBits" "I" ∈ x_TT := x_TT_of (tq_2 (List.mem_of_getElem? (i := 88) rfl)) rfl
theorem wf_X4_104 : Cond.fieldLink RX4 104 "OathButtons$Regiment" "men" "I" ∈ x_TT := x_TT_of (tq_1 (List.mem_of_getElem? (i := 69) rfl)) rfl
theorem wf_X4_115 : Cond.fieldLink RX4 115 "OathButtons$Tokens" "letters" "J" ∈ x_TT := x_TT_of (tq_1 (List.mem_of_getElem? (i := 205) rfl)) rfl
theorem wf_X4_119 : Cond.fieldLink RX4 119 "OathButtons$Regiment" "colour" "[I" ∈ x_TT := x_TT_of (tq_1 (List.mem_of_getElem? (i := 73) rfl)) rfl
theorem wf_X4_12 : Cond.fieldLink RX4 12 "OathButtons$Reader" "tokens" "LOathButtons$Tokens;" ∈ x_TT := x_TT_of (tq_2 (List.mem_of_getElem? (i := 4) rfl)) rfl
theorem wf_X4_127 : Cond.fieldLink RX4 127 "OathButtons$Regiment" "holes" "[I" ∈ x_TT := x_TT_of (tq_1 (List.mem_of_getElem? (i := 75) rfl)) rfl
theorem wf_X4_130 : Cond.fieldLink RX4 130 "OathButtons$Regiment" "left" "[I" ∈ x_TT := x_TT_of (tq_1 (List.mem_of_getElem? (i := 78) rfl)) rfl
theorem wf_X4_136 : Cond.fieldLink RX4 136 "OathButtons$Regiment" "deeds" "I" ∈ x_TT := x_TT_of (tq_1 (List.mem_of_getElem? (i := 81) rfl)) rfl
theorem wf_X4_142 : Cond.fieldLink RX4 142 "OathButtons$Regiment" "hours" "[I" ∈ x_TT := x_TT_of (tq_1 (List.mem_of_getElem? (i := 85) rfl)) rfl
theorem wf_X4_149 : Cond.fieldLink RX4 149 "OathButtons$Regiment" "buttons" "I" ∈ x_TT := x_TT_of (tq_1 (List.mem_of_getElem? (i := 89) rfl)) rfl
theorem wf_X4_158 : Cond.fieldLink RX4 158 "OathButtons$Regiment" "until" "[I" ∈ x_TT := x_TT_of (tq_1 (List.mem_of_getElem? (i := 111) rfl)) rfl
theorem wf_X4_161 : Cond.fieldLink RX4 161 "OathButtons$Regiment" "thread" "[I" ∈ x_TT := x_TT_of (tq_1 (List.mem_of_getElem? (i := 116) rfl)) rfl
theorem wf_X4_171 : Cond.fieldLink RX4 171 "OathButtons$Regiment" "on" "[I" ∈ x_TT := x_TT_of (tq_1 (List.mem_of_getElem? (i := 93) rfl)) rfl
theorem wf_X4_174 : Cond.fieldLink RX4 174 "OathButtons$Regiment" "by" "[I" ∈ x_TT := x_TT_of (tq_1 (List.mem_of_getElem? (i := 97) rfl)) rfl
theorem wf_X4_177 : Cond.fieldLink RX4 177 "OathButtons$Regiment" "promises" "[I" ∈ x_TT := x_TT_of (tq_1 (List.mem_of_getElem? (i := 107) rfl)) rfl
theorem wf_X4_180 : Cond.fieldLink RX4 180 "OathButtons$Regiment" "deed" "[I" ∈ x_TT := x_TT_of (tq_1 (List.mem_of_getElem? (i := 102) rfl)) rfl
theorem wf_X4_183 : Cond.fieldLink RX4 183 "OathButtons$Regiment" "after" "[I" ∈ x_TT := x_TT_of (tq_1 (List.mem_of_getElem? (i := 119) rfl)) rfl
theorem wf_X4_186 : Cond.fieldLink RX4 186 "OathButtons$Regiment" "friends" "I" ∈ x_TT := x_TT_of (tq_1 (List.mem_of_getElem? (i := 122) rfl)) rfl
theorem wf_X4_198 : Cond.fieldLink RX4 198 "OathButtons$Tokens" "place" "I" ∈ x_TT := x_TT_of (tq_1 (List.mem_of_getElem? (i := 197) rfl)) rfl
theorem wf_X4_208 : Cond.fieldLink RX4 208 "OathButtons$Regiment" "hoursOfDay" "I" ∈ x_TT := x_TT_of (tq_1 (List.mem_of_getElem? (i := 131) rfl)) rfl
theorem wf_X4_21 : Cond.fieldLink RX4 21 "OathButtons$Reader" "draft" "LOathButtons$Regiment;" ∈ x_TT := x_TT_of (tq_2 (List.mem_of_getElem? (i := 6) rfl)) rfl
theorem wf_X4_211 : Cond.fieldLink RX4 211 "OathButtons$Regiment" "storm" "I" ∈ x_TT := x_TT_of (tq_1 (List.mem_of_getElem? (i := 135) rfl)) rfl
theorem wf_X4_214 : Cond.fieldLink RX4 214 "OathButtons$Regiment" "draw" "I" ∈ x_TT := x_TT_of (tq_1 (List.mem_of_getElem? (i := 139) rfl)) rfl
theorem wf_X4_34 : Cond.fieldLink RX4 34 "OathButtons$Reader" "formulas" "LOathButtons$FormulaReader;" ∈ x_TT := x_TT_of (tq_2 (List.mem_of_getElem? (i := 8) rfl)) rfl
theorem wf_X4_38 : Cond.fieldLink RX4 38 "OathButtons$Reader" "manNames" "[J" ∈ x_TT := x_TT_of (tq_2 (List.mem_of_getElem? (i := 9) rfl)) rfl
theorem wf_X4_42 : Cond.fieldLink RX4 42 "OathButtons$Reader" "deedNames" "[J" ∈ x_TT := x_TT_of (tq_2 (List.mem_of_getElem? (i := 10) rfl)) rfl
theorem wf_X4_45 : Cond.fieldLink RX4 45 "OathButtons$Reader" "buttonNames" "[J" ∈ x_TT := x_TT_of (tq_2 (List.mem_of_getElem? (i := 11) rfl)) rfl
theorem wf_X4_51 : Cond.fieldLink RX4 51 "OathButtons$Reader" "seen" "I" ∈ x_TT := x_TT_of (tq_2 (List.mem_of_getElem? (i := 12) rfl)) rfl
theorem wf_X4_59 : Cond.fieldLink RX4 59 "OathButtons$Tokens" "kind" "I" ∈ x_TT := x_TT_of (tq_1 (List.mem_of_getElem? (i := 198) rfl)) rfl
theorem wf_X4_62 : Cond.fieldLink RX4 62 "OathButtons$Tokens" "value" "I" ∈ x_TT := x_TT_of (tq_1 (List.mem_of_getElem? (i := 201) rfl)) rfl
theorem wf_X5_15 : Cond.fieldLink RX5 15 "OathButtons$Regiment" "holes" "[I" ∈ x_TT := x_TT_of (tq_1 (List.mem_of_getElem? (i := 74) rfl)) rfl
theorem wf_X5_18 : Cond.fieldLink RX5 18 "OathButtons$Regiment" "left" "[I" ∈ x_TT := x_TT_of (tq_1 (List.mem_of_getElem? (i := 77) rfl)) rfl
theorem wf_X5_21 : Cond.fieldLink RX5 21 "OathButtons$Regiment" "hours" "[I" ∈ x_TT := x_TT_of (tq_1 (List.mem_of_getElem? (i := 83) rfl)) rfl
theorem wf_X5_24 : Cond.fieldLink RX5 24 "OathButtons$Regiment" "on" "[I" ∈ x_TT := x_TT_of (tq_1 (List.mem_of_getElem? (i := 91) rfl)) rfl
theorem wf_X5_27 : Cond.fieldLink RX5 27 "OathButtons$Regiment" "by" "[I" ∈ x_TT := x_TT_of (tq_1 (List.mem_of_getElem? (i := 95) rfl)) rfl
theorem wf_X5_30 : Cond.fieldLink RX5 30 "OathButtons$Regiment" "deed" "[I" ∈ x_TT := x_TT_of (tq_1 (List.mem_of_getElem? (i := 99) rfl)) rfl
theorem wf_X5_33 : Cond.fieldLink RX5 33 "OathButtons$Regiment" "promises" "[I" ∈ x_TT := x_TT_of (tq_1 (List.mem_of_getElem? (i := 104) rfl)) rfl
theorem wf_X5_36 : Cond.fieldLink RX5 36 "OathButtons$Regiment" "until" "[I" ∈ x_TT := x_TT_of (tq_1 (List.mem_of_getElem? (i := 109) rfl)) rfl
theorem wf_X5_39 : Cond.fieldLink RX5 39 "OathButtons$Regiment" "thread" "[I" ∈ x_TT := x_TT_of (tq_1 (List.mem_of_getElem? (i := 114) rfl)) rfl
theorem wf_X5_42 : Cond.fieldLink RX5 42 "OathButtons$Regiment" "after" "[I" ∈ x_TT := x_TT_of (tq_1 (List.mem_of_getElem? (i := 117) rfl)) rfl
theorem wf_X5_45 : Cond.fieldLink RX5 45 "OathButtons$Regiment" "worth" "[I" ∈ x_TT := x_TT_of (tq_1 (List.mem_of_getElem? (i := 124) rfl)) rfl
theorem wf_X5_51 : Cond.fieldLink RX5 51 "OathButtons$Regiment" "wear" "LOathButtons$Wear;" ∈ x_TT := x_TT_of (tq_1 (List.mem_of_getElem? (i := 126) rfl)) rfl
theorem wf_X5_58 : Cond.fieldLink RX5 58 "OathButtons$Regiment" "men" "I" ∈ x_TT := x_TT_of (tq_1 (List.mem_of_getElem? (i := 67) rfl)) rfl
theorem wf_X5_62 : Cond.fieldLink RX5 62 "OathButtons$Regiment" "deeds" "I" ∈ x_TT := x_TT_of (tq_1 (List.mem_of_getElem? (i := 79) rfl)) rfl
theorem wf_X5_65 : Cond.fieldLink RX5 65 "OathButtons$Regiment" "buttons" "I" ∈ x_TT := x_TT_of (tq_1 (List.mem_of_getElem? (i := 86) rfl)) rfl
theorem wf_X5_68 : Cond.fieldLink RX5 68 "OathButtons$Regiment" "friends" "I" ∈ x_TT := x_TT_of (tq_1 (List.mem_of_getElem? (i := 121) rfl)) rfl
theorem wf_X5_72 : Cond.fieldLink RX5 72 "OathButtons$Regiment" "hoursOfDay" "I" ∈ x_TT := x_TT_of (tq_1 (List.mem_of_getElem? (i := 129) rfl)) rfl
theorem wf_X5_75 : Cond.fieldLink RX5 75 "OathButtons$Regiment" "storm" "I" ∈ x_TT := x_TT_of (tq_1 (List.mem_of_getElem? (i := 133) rfl)) rfl
theorem wf_X5_78 : Cond.fieldLink RX5 78 "OathButtons$Regiment" "draw" "I" ∈ x_TT := x_TT_of (tq_1 (List.mem_of_getElem? (i := 138) rfl)) rfl
theorem wf_X5_9 : Cond.fieldLink RX5 9 "OathButtons$Regiment" "colour" "[I" ∈ x_TT := x_TT_of (tq_1 (List.mem_of_getElem? (i := 72) rfl)) rfl
theorem wf_X6_15 : Cond.fieldLink RX6 15 "OathButtons$Threads" "coats" "LOathButtons$Coats;" ∈ x_TT := x_TT_of (tq_2 (List.mem_of_getElem? (i := 124) rfl)) rfl
theorem wf_X6_47 : Cond.fieldLink RX6 47 "OathButtons$Regiment" "storm" "I" ∈ x_TT := x_TT_of (tq_1 (List.mem_of_getElem? (i := 134) rfl)) rfl
theorem wf_X6_9 : Cond.fieldLink RX6 9 "OathButtons$Threads" "told" "LOathButtons$Regiment;" ∈ x_TT := x_TT_of (tq_2 (List.mem_of_getElem? (i := 123) rfl)) rfl
theorem wf_X7_21 : Cond.fieldLink RX7 21 "OathButtons$Tokens" "length" "I" ∈ x_TT := x_TT_of (tq_1 (List.mem_of_getElem? (i := 194) rfl)) rfl
theorem wf_X7_25 : Cond.fieldLink RX7 25 "OathButtons$Tokens" "next" "I" ∈ x_TT := x_TT_of (tq_1 (List.mem_of_getElem? (i := 195) rfl)) rfl
theorem wf_X7_28 : Cond.fieldLink RX7 28 "OathButtons$Tokens" "faultKind" "I" ∈ x_TT := x_TT_of (tq_1 (List.mem_of_getElem? (i := 206) rfl)) rfl
theorem wf_X7_31 : Cond.fieldLink RX7 31 "OathButtons$Tokens" "faultPlace" "I" ∈ x_TT := x_TT_of (tq_1 (List.mem_of_getElem? (i := 208) rfl)) rfl
theorem wf_X7_37 : Cond.fieldLink RX7 37 "OathButtons$Tokens" "place" "I" ∈ x_TT := x_TT_of (tq_1 (List.mem_of_getElem? (i := 196) rfl)) rfl
theorem wf_X7_40 : Cond.fieldLink RX7 40 "OathButtons$Tokens" "kind" "I" ∈ x_TT := x_TT_of (tq_1 (List.mem_of_getElem? (i := 199) rfl)) rfl
theorem wf_X7_46 : Cond.fieldLink RX7 46 "OathButtons$Tokens" "letters" "J" ∈ x_TT := x_TT_of (tq_1 (List.mem_of_getElem? (i := 204) rfl)) rfl
theorem wf_X7_54 : Cond.fieldLink RX7 54 "OathButtons$Tokens" "value" "I" ∈ x_TT := x_TT_of (tq_1 (List.mem_of_getElem? (i := 202) rfl)) rfl
theorem wf_X7_9 : Cond.fieldLink RX7 9 "OathButtons$Tokens" "text" "[B" ∈ x_TT := x_TT_of (tq_1 (List.mem_of_getElem? (i := 193) rfl)) rfl
theorem wf_X8_15 : Cond.fieldLink RX8 15 "OathButtons$Truces" "best" "[I" ∈ x_TT := x_TT_of (tq_2 (List.mem_of_getElem? (i := 138) rfl)) rfl
theorem wf_X8_18 : Cond.fieldLink RX8 18 "OathButtons$Truces" "firstCalm" "[I" ∈ x_TT := x_TT_of (tq_2 (List.mem_of_getElem? (i := 142) rfl)) rfl
theorem wf_X8_21 : Cond.fieldLink RX8 21 "OathButtons$Truces" "told" "LOathButtons$Regiment;" ∈ x_TT := x_TT_of (tq_2 (List.mem_of_getElem? (i := 136) rfl)) rfl
theorem wf_X8_25 : Cond.fieldLink RX8 25 "OathButtons$Truces" "any" "Z" ∈ x_TT := x_TT_of (tq_2 (List.mem_of_getElem? (i := 146) rfl)) rfl
theorem wf_X8_29 : Cond.fieldLink RX8 29 "OathButtons$Truces" "bestWorth" "I" ∈ x_TT := x_TT_of (tq_2 (List.mem_of_getElem? (i := 140) rfl)) rfl
theorem wf_X8_33 : Cond.fieldLink RX8 33 "OathButtons$Truces" "calmCount" "I" ∈ x_TT := x_TT_of (tq_2 (List.mem_of_getElem? (i := 144) rfl)) rfl
theorem wf_X8_40 : Cond.fieldLink RX8 40 "OathButtons$Regiment" "men" "I" ∈ x_TT := x_TT_of (tq_1 (List.mem_of_getElem? (i := 68) rfl)) rfl
theorem wf_X8_9 : Cond.fieldLink RX8 9 "OathButtons$Truces" "with" "[I" ∈ x_TT := x_TT_of (tq_2 (List.mem_of_getElem? (i := 137) rfl)) rfl
theorem wf_X9_15 : Cond.fieldLink RX9 15 "OathButtons$Tugs" "number" "[I" ∈ x_TT := x_TT_of (tq_2 (List.mem_of_getElem? (i := 170) rfl)) rfl
theorem wf_X9_18 : Cond.fieldLink RX9 18 "OathButtons$Tugs" "is" "[Z" ∈ x_TT := x_TT_of (tq_2 (List.mem_of_getElem? (i := 171) rfl)) rfl
theorem wf_X9_22 : Cond.fieldLink RX9 22 "OathButtons$Tugs" "toldAt" "[I" ∈ x_TT := x_TT_of (tq_2 (List.mem_of_getElem? (i := 172) rfl)) rfl
theorem wf_X9_25 : Cond.fieldLink RX9 25 "OathButtons$Tugs" "untoldAt" "[I" ∈ x_TT := x_TT_of (tq_2 (List.mem_of_getElem? (i := 173) rfl)) rfl
theorem wf_X9_28 : Cond.fieldLink RX9 28 "OathButtons$Tugs" "told" "LOathButtons$Regiment;" ∈ x_TT := x_TT_of (tq_2 (List.mem_of_getElem? (i := 168) rfl)) rfl
theorem wf_X9_32 : Cond.fieldLink RX9 32 "OathButtons$Tugs" "count" "I" ∈ x_TT := x_TT_of (tq_2 (List.mem_of_getElem? (i := 174) rfl)) rfl
theorem wf_X9_36 : Cond.fieldLink RX9 36 "OathButtons$Tugs" "time" "I" ∈ x_TT := x_TT_of (tq_2 (List.mem_of_getElem? (i := 176) rfl)) rfl
theorem wf_X9_39 : Cond.fieldLink RX9 39 "OathButtons$Regiment" "men" "I" ∈ x_TT := x_TT_of (tq_1 (List.mem_of_getElem? (i := 70) rfl)) rfl
theorem wf_X9_9 : Cond.fieldLink RX9 9 "OathButtons$Tugs" "what" "[I" ∈ x_TT := x_TT_of (tq_2 (List.mem_of_getElem? (i := 169) rfl)) rfl
theorem wi_J10 : Cond.initialized RJ10 ∈ x_TT := x_TT_of (tq_1 (List.mem_of_getElem? (i := 13) rfl)) rfl
theorem wi_J6 : Cond.initialized RJ6 ∈ x_TT := x_TT_of (tq_1 (List.mem_of_getElem? (i := 21) rfl)) rfl
theorem wi_J9 : Cond.initialized RJ9 ∈ x_TT := x_TT_of (tq_1 (List.mem_of_getElem? (i := 15) rfl)) rfl
theorem wi_X0 : Cond.initialized RX0 ∈ x_TT := x_TT_of (tq_1 (List.mem_of_getElem? (i := 7) rfl)) rfl
theorem wi_X1 : Cond.initialized RX1 ∈ x_TT := x_TT_of (tq_1 (List.mem_of_getElem? (i := 6) rfl)) rfl
theorem wi_X10 : Cond.initialized RX10 ∈ x_TT := x_TT_of (tq_1 (List.mem_of_getElem? (i := 3) rfl)) rfl
theorem wi_X11 : Cond.initialized RX11 ∈ x_TT := x_TT_of (tq_1 (List.mem_of_getElem? (i := 1) rfl)) rfl
theorem wi_X12 : Cond.initialized RX12 ∈ x_TT := x_TT_of (tq_1 (List.mem_of_getElem? (i := 14) rfl)) rfl
theorem wi_X2 : Cond.initialized RX2 ∈ x_TT := x_TT_of (tq_1 (List.mem_of_getElem? (i := 8) rfl)) rfl
theorem wi_X3 : Cond.initialized RX3 ∈ x_TT := x_TT_of (tq_1 (List.mem_of_getElem? (i := 9) rfl)) rfl
theorem wi_X4 : Cond.initialized RX4 ∈ x_TT := x_TT_of (tq_1 (List.mem_of_getElem? (i := 4) rfl)) rfl
theorem wi_X5 : Cond.initialized RX5 ∈ x_TT := x_TT_of (tq_1 (List.mem_of_getElem? (i := 2) rfl)) rfl
theorem wi_X6 : Cond.initialized RX6 ∈ x_TT := x_TT_of (tq_1 (List.mem_of_getElem? (i := 10) rfl)) rfl
theorem wi_X7 : Cond.initialized RX7 ∈ x_TT := x_TT_of (tq_1 (List.mem_of_getElem? (i := 5) rfl)) rfl
theorem wi_X8 : Cond.initialized RX8 ∈ x_TT := x_TT_of (tq_1 (List.mem_of_getElem? (i := 11) rfl)) rfl
theorem wi_X9 : Cond.initialized RX9 ∈ x_TT := x_TT_of (tq_1 (List.mem_of_getElem? (i := 12) rfl)) rfl
theorem wk_J6_265 : Cond.constant RJ6 265 (1431655765) ∈ x_TT := x_TT_of (tq_5 (List.mem_of_getElem? (i := 63) rfl)) rfl
theorem wk_J6_266 : Cond.constant RJ6 266 (858993459) ∈ x_TT := x_TT_of (tq_5 (List.mem_of_getElem? (i := 64) rfl)) rfl
theorem wk_J6_267 : Cond.constant RJ6 267 (252645135) ∈ x_TT := x_TT_of (tq_5 (List.mem_of_getElem? (i := 65) rfl)) rfl
theorem wk_X11_255 : Cond.constantLong RX11 255 (-1) ∈ x_TT := x_TT_of (tq_5 (List.mem_of_getElem? (i := 131) rfl)) rfl
theorem wk_X11_302 : Cond.constant RX11 302 (100000) ∈ x_TT := x_TT_of (tq_6 (List.mem_of_getElem? (i := 0) rfl)) rfl
theorem wk_X12_215 : Cond.constantLong RX12 215 (7168366) ∈ x_TT := x_TT_of (tq_7 (List.mem_of_getElem? (i := 147) rfl)) rfl
theorem wk_X12_217 : Cond.constantLong RX12 217 (109330211763570) ∈ x_TT := x_TT_of (tq_7 (List.mem_of_getElem? (i := 168) rfl)) rfl
theorem wk_X12_219 : Cond.constantLong RX12 219 (448545973619) ∈ x_TT := x_TT_of (tq_7 (List.mem_of_getElem? (i := 169) rfl)) rfl
theorem wk_X12_221 : Cond.constantLong RX12 221 (1818584692) ∈ x_TT := x_TT_of (tq_7 (List.mem_of_getElem? (i := 170) rfl)) rfl
theorem wk_X12_223 : Cond.constantLong RX12 223 (1684366692) ∈ x_TT := x_TT_of (tq_7 (List.mem_of_getElem? (i := 171) rfl)) rfl
theorem wk_X12_225 : Cond.constantLong RX12 225 (448546566771) ∈ x_TT := x_TT_of (tq_7 (List.mem_of_getElem? (i := 172) rfl)) rfl
theorem wk_X12_227 : Cond.constantLong RX12 227 (108256604483438) ∈ x_TT := x_TT_of (tq_7 (List.mem_of_getElem? (i := 173) rfl)) rfl
theorem wk_X12_229 : Cond.constantLong RX12 229 (28526) ∈ x_TT := x_TT_of (tq_7 (List.mem_of_getElem? (i := 174) rfl)) rfl
theorem wk_X12_231 : Cond.constantLong RX12 231 (25209) ∈ x_TT := x_TT_of (tq_7 (List.mem_of_getElem? (i := 175) rfl)) rfl
theorem wk_X12_233 : Cond.constantLong RX12 233 (1685022067) ∈ x_TT := x_TT_of (tq_7 (List.mem_of_getElem? (i := 176) rfl)) rfl
theorem wk_X12_235 : Cond.constantLong RX12 235 (474148660594) ∈ x_TT := x_TT_of (tq_7 (List.mem_of_getElem? (i := 177) rfl)) rfl
theorem wk_X12_237 : Cond.constantLong RX12 237 (504364296556) ∈ x_TT := x_TT_of (tq_7 (List.mem_of_getElem? (i := 178) rfl)) rfl
theorem wk_X12_239 : Cond.constantLong RX12 239 (127991944667492) ∈ x_TT := x_TT_of (tq_7 (List.mem_of_getElem? (i := 179) rfl)) rfl
theorem wk_X12_241 : Cond.constantLong RX12 241 (418330731890) ∈ x_TT := x_TT_of (tq_7 (List.mem_of_getElem? (i := 180) rfl)) rfl
theorem wk_X12_243 : Cond.constantLong RX12 243 (112641580559972) ∈ x_TT := x_TT_of (tq_7 (List.mem_of_getElem? (i := 181) rfl)) rfl
theorem wk_X12_245 : Cond.constantLong RX12 245 (2003132786) ∈ x_TT := x_TT_of (tq_7 (List.mem_of_getElem? (i := 182) rfl)) rfl
theorem wk_X12_247 : Cond.constantLong RX12 247 (6578553) ∈ x_TT := x_TT_of (tq_7 (List.mem_of_getElem? (i := 183) rfl)) rfl
theorem wk_X12_249 : Cond.constantLong RX12 249 (495874699885) ∈ x_TT := x_TT_of (tq_7 (List.mem_of_getElem? (i := 184) rfl)) rfl
theorem wk_X12_251 : Cond.constantLong RX12 251 (1685217655) ∈ x_TT := x_TT_of (tq_7 (List.mem_of_getElem? (i := 185) rfl)) rfl
theorem wk_X12_253 : Cond.constantLong RX12 253 (6385252) ∈ x_TT := x_TT_of (tq_7 (List.mem_of_getElem? (i := 186) rfl)) rfl
theorem wk_X12_255 : Cond.constantLong RX12 255 (28530) ∈ x_TT := x_TT_of (tq_7 (List.mem_of_getElem? (i := 187) rfl)) rfl
theorem wk_X12_257 : Cond.constantLong RX12 257 (7237492) ∈ x_TT := x_TT_of (tq_7 (List.mem_of_getElem? (i := 188) rfl)) rfl
theorem wk_X12_549 : Cond.constantLong RX12 549 (-1) ∈ x_TT := x_TT_of (tq_8 (List.mem_of_getElem? (i := 221) rfl)) rfl
theorem wk_X12_551 : Cond.constantLong RX12 551 (100) ∈ x_TT := x_TT_of (tq_8 (List.mem_of_getElem? (i := 222) rfl)) rfl
theorem wk_X12_560 : Cond.constant RX12 560 (1000000) ∈ x_TT := x_TT_of (tq_8 (List.mem_of_getElem? (i := 234) rfl)) rfl
theorem wk_X12_585 : Cond.constant RX12 585 (100000) ∈ x_TT := x_TT_of (tq_9 (List.mem_of_getElem? (i := 55) rfl)) rfl
theorem wk_X6_41 : Cond.constantLong RX6 41 (100) ∈ x_TT := x_TT_of (tq_5 (List.mem_of_getElem? (i := 152) rfl)) rfl
theorem wk_X7_68 : Cond.constantLong RX7 68 (32) ∈ x_TT := x_TT_of (tq_3 (List.mem_of_getElem? (i := 50) rfl)) rfl
theorem wm_X0_100 : Cond.methodLink RX0 100 yJ9_min_7cf53 ∈ x_TT := x_TT_of (tq_5 (List.mem_of_getElem? (i := 13) rfl)) rfl
theorem wm_X0_106 : Cond.methodLink RX0 106 yJ9_max_7cf53 ∈ x_TT := x_TT_of (tq_5 (List.mem_of_getElem? (i := 14) rfl)) rfl
theorem wm_X0_112 : Cond.methodLink RX0 112 yX0_waits ∈ x_TT := x_TT_of (tq_5 (List.mem_of_getElem? (i := 122) rfl)) rfl
theorem wm_X0_34 : Cond.methodLink RX0 34 yX5_hasButton ∈ x_TT := x_TT_of (tq_4 (List.mem_of_getElem? (i := 183) rfl)) rfl
theorem wm_X0_38 : Cond.methodLink RX0 38 yX0_isOn ∈ x_TT := x_TT_of (tq_4 (List.mem_of_getElem? (i := 184) rfl)) rfl
theorem wm_X0_44 : Cond.methodLink RX0 44 yX0_isOnMan ∈ x_TT := x_TT_of (tq_4 (List.mem_of_getElem? (i := 163) rfl)) rfl
theorem wm_X0_54 : Cond.methodLink RX0 54 yX0_seed ∈ x_TT := x_TT_of (tq_4 (List.mem_of_getElem? (i := 221) rfl)) rfl
theorem wm_X0_58 : Cond.methodLink RX0 58 yX0_nextSeed ∈ x_TT := x_TT_of (tq_4 (List.mem_of_getElem? (i := 225) rfl)) rfl
theorem wm_X0_62 : Cond.methodLink RX0 62 yX0_stormBy ∈ x_TT := x_TT_of (tq_4 (List.mem_of_getElem? (i := 228) rfl)) rfl
theorem wm_X0_65 : Cond.methodLink RX0 65 yX0_threadOf ∈ x_TT := x_TT_of (tq_4 (List.mem_of_getElem? (i := 232) rfl)) rfl
theorem wm_X0_68 : Cond.methodLink RX0 68 yX0_today ∈ x_TT := x_TT_of (tq_4 (List.mem_of_getElem? (i := 233) rfl)) rfl
theorem wm_X0_71 : Cond.methodLink RX0 71 yX0_worn ∈ x_TT := x_TT_of (tq_4 (List.mem_of_getElem? (i := 234) rfl)) rfl
theorem wm_X0_75 : Cond.methodLink RX0 75 yX0_stateAfterWear ∈ x_TT := x_TT_of (tq_5 (List.mem_of_getElem? (i := 15) rfl)) rfl
theorem wm_X0_85 : Cond.methodLink RX0 85 yX5_hasMan ∈ x_TT := x_TT_of (tq_4 (List.mem_of_getElem? (i := 238) rfl)) rfl
theorem wm_X0_95 : Cond.methodLink RX0 95 yX10_amount ∈ x_TT := x_TT_of (tq_4 (List.mem_of_getElem? (i := 239) rfl)) rfl
theorem wm_X10_25 : Cond.methodLink RX10 25 arraycopyName ∈ x_TT := x_TT_of (tq_4 (List.mem_of_getElem? (i := 98) rfl)) rfl
theorem wm_X10_31 : Cond.methodLink RX10 31 yX10_push ∈ x_TT := x_TT_of (tq_5 (List.mem_of_getElem? (i := 3) rfl)) rfl
theorem wm_X10_35 : Cond.methodLink RX10 35 yX10_truth ∈ x_TT := x_TT_of (tq_5 (List.mem_of_getElem? (i := 7) rfl)) rfl
theorem wm_X10_39 : Cond.methodLink RX10 39 yX10_join ∈ x_TT := x_TT_of (tq_5 (List.mem_of_getElem? (i := 10) rfl)) rfl
theorem wm_X11_114 : Cond.methodLink RX11 114 yX5_takeOver ∈ x_TT := x_TT_of (tq_4 (List.mem_of_getElem? (i := 87) rfl)) rfl
theorem wm_X11_117 : Cond.methodLink RX11 117 yX2_emptyBoxes ∈ x_TT := x_TT_of (tq_4 (List.mem_of_getElem? (i := 99) rfl)) rfl
theorem wm_X11_120 : Cond.methodLink RX11 120 yX9_forgetAll ∈ x_TT := x_TT_of (tq_4 (List.mem_of_getElem? (i := 103) rfl)) rfl
theorem wm_X11_129 : Cond.methodLink RX11 129 yX5_hasButton ∈ x_TT := x_TT_of (tq_4 (List.mem_of_getElem? (i := 115) rfl)) rfl
theorem wm_X11_133 : Cond.methodLink RX11 133 yX0_stateOf ∈ x_TT := x_TT_of (tq_4 (List.mem_of_getElem? (i := 119) rfl)) rfl
theorem wm_X11_137 : Cond.methodLink RX11 137 yX0_threadOf ∈ x_TT := x_TT_of (tq_4 (List.mem_of_getElem? (i := 123) rfl)) rfl
theorem wm_X11_158 : Cond.methodLink RX11 158 yX5_hasMan ∈ x_TT := x_TT_of (tq_4 (List.mem_of_getElem? (i := 131) rfl)) rfl
theorem wm_X11_164 : Cond.methodLink RX11 164 yX0_isOn ∈ x_TT := x_TT_of (tq_4 (List.mem_of_getElem? (i := 139) rfl)) rfl
theorem wm_X11_167 : Cond.methodLink RX11 167 yX5_hasDeed ∈ x_TT := x_TT_of (tq_4 (List.mem_of_getElem? (i := 147) rfl)) rfl
theorem wm_X11_170 : Cond.methodLink RX11 170 yX0_doDeed ∈ x_TT := x_TT_of (tq_4 (List.mem_of_getElem? (i := 159) rfl)) rfl
theorem wm_X11_174 : Cond.methodLink RX11 174 yX2_addAct ∈ x_TT := x_TT_of (tq_4 (List.mem_of_getElem? (i := 167) rfl)) rfl
theorem wm_X11_177 : Cond.methodLink RX11 177 yX11_isButtonOn ∈ x_TT := x_TT_of (tq_4 (List.mem_of_getElem? (i := 175) rfl)) rfl
theorem wm_X11_180 : Cond.methodLink RX11 180 yX0_waits ∈ x_TT := x_TT_of (tq_4 (List.mem_of_getElem? (i := 179) rfl)) rfl
theorem wm_X11_183 : Cond.methodLink RX11 183 yX0_unbutton ∈ x_TT := x_TT_of (tq_4 (List.mem_of_getElem? (i := 185) rfl)) rfl
theorem wm_X11_186 : Cond.methodLink RX11 186 yX0_cuts ∈ x_TT := x_TT_of (tq_4 (List.mem_of_getElem? (i := 193) rfl)) rfl
theorem wm_X11_190 : Cond.methodLink RX11 190 yX0_cutOff ∈ x_TT := x_TT_of (tq_4 (List.mem_of_getElem? (i := 197) rfl)) rfl
theorem wm_X11_193 : Cond.methodLink RX11 193 yX0_sewAnew ∈ x_TT := x_TT_of (tq_4 (List.mem_of_getElem? (i := 205) rfl)) rfl
theorem wm_X11_196 : Cond.methodLink RX11 196 yX0_today ∈ x_TT := x_TT_of (tq_4 (List.mem_of_getElem? (i := 213) rfl)) rfl
theorem wm_X11_199 : Cond.methodLink RX11 199 yX0_passDay ∈ x_TT := x_TT_of (tq_4 (List.mem_of_getElem? (i := 217) rfl)) rfl
theorem wm_X11_202 : Cond.methodLink RX11 202 yX2_stepBack ∈ x_TT := x_TT_of (tq_5 (List.mem_of_getElem? (i := 23) rfl)) rfl
theorem wm_X11_206 : Cond.methodLink RX11 206 yX2_stepOn ∈ x_TT := x_TT_of (tq_5 (List.mem_of_getElem? (i := 35) rfl)) rfl
theorem wm_X11_209 : Cond.methodLink RX11 209 yX3_lookAt ∈ x_TT := x_TT_of (tq_5 (List.mem_of_getElem? (i := 43) rfl)) rfl
theorem wm_X11_212 : Cond.methodLink RX11 212 yX3_findBest ∈ x_TT := x_TT_of (tq_5 (List.mem_of_getElem? (i := 48) rfl)) rfl
theorem wm_X11_215 : Cond.methodLink RX11 215 yX3_followBest ∈ x_TT := x_TT_of (tq_5 (List.mem_of_getElem? (i := 67) rfl)) rfl
theorem wm_X11_224 : Cond.methodLink RX11 224 yX11_layOut ∈ x_TT := x_TT_of (tq_5 (List.mem_of_getElem? (i := 75) rfl)) rfl
theorem wm_X11_231 : Cond.methodLink RX11 231 yJ6_bitCount_0f7a4 ∈ x_TT := x_TT_of (tq_5 (List.mem_of_getElem? (i := 83) rfl)) rfl
theorem wm_X11_239 : Cond.methodLink RX11 239 yX3_mostKept ∈ x_TT := x_TT_of (tq_5 (List.mem_of_getElem? (i := 88) rfl)) rfl
theorem wm_X11_242 : Cond.methodLink RX11 242 yX0_isOnMan ∈ x_TT := x_TT_of (tq_5 (List.mem_of_getElem? (i := 97) rfl)) rfl
theorem wm_X11_246 : Cond.methodLink RX11 246 yX3_smallestClash ∈ x_TT := x_TT_of (tq_5 (List.mem_of_getElem? (i := 102) rfl)) rfl
theorem wm_X11_249 : Cond.methodLink RX11 249 yX0_leaveBits ∈ x_TT := x_TT_of (tq_5 (List.mem_of_getElem? (i := 118) rfl)) rfl
theorem wm_X11_252 : Cond.methodLink RX11 252 yX11_layDown ∈ x_TT := x_TT_of (tq_5 (List.mem_of_getElem? (i := 79) rfl)) rfl
theorem wm_X11_257 : Cond.methodLink RX11 257 yX6_threadBehind ∈ x_TT := x_TT_of (tq_5 (List.mem_of_getElem? (i := 132) rfl)) rfl
theorem wm_X11_261 : Cond.methodLink RX11 261 yX6_oddsPart ∈ x_TT := x_TT_of (tq_5 (List.mem_of_getElem? (i := 143) rfl)) rfl
theorem wm_X11_265 : Cond.methodLink RX11 265 yX6_daysTillLost ∈ x_TT := x_TT_of (tq_5 (List.mem_of_getElem? (i := 160) rfl)) rfl
theorem wm_X11_268 : Cond.methodLink RX11 268 yX6_stateBehind ∈ x_TT := x_TT_of (tq_5 (List.mem_of_getElem? (i := 168) rfl)) rfl
theorem wm_X11_271 : Cond.methodLink RX11 271 yX8_tryAll ∈ x_TT := x_TT_of (tq_5 (List.mem_of_getElem? (i := 181) rfl)) rfl
theorem wm_X11_286 : Cond.methodLink RX11 286 yX5_worthOf ∈ x_TT := x_TT_of (tq_5 (List.mem_of_getElem? (i := 215) rfl)) rfl
theorem wm_X11_292 : Cond.methodLink RX11 292 yX9_tell ∈ x_TT := x_TT_of (tq_5 (List.mem_of_getElem? (i := 224) rfl)) rfl
theorem wm_X11_296 : Cond.methodLink RX11 296 yX9_takeBack ∈ x_TT := x_TT_of (tq_5 (List.mem_of_getElem? (i := 232) rfl)) rfl
theorem wm_X11_303 : Cond.methodLink RX11 303 yX9_suspects ∈ x_TT := x_TT_of (tq_6 (List.mem_of_getElem? (i := 5) rfl)) rfl
theorem wm_X11_306 : Cond.methodLink RX11 306 yX9_leftAtMost ∈ x_TT := x_TT_of (tq_6 (List.mem_of_getElem? (i := 21) rfl)) rfl
theorem wm_X11_309 : Cond.methodLink RX11 309 yX2_fillBox ∈ x_TT := x_TT_of (tq_6 (List.mem_of_getElem? (i := 30) rfl)) rfl
theorem wm_X11_312 : Cond.methodLink RX11 312 yX2_openBox ∈ x_TT := x_TT_of (tq_6 (List.mem_of_getElem? (i := 38) rfl)) rfl
theorem wm_X11_321 : Cond.methodLink RX11 321 yX0_seed ∈ x_TT := x_TT_of (tq_6 (List.mem_of_getElem? (i := 47) rfl)) rfl
theorem wm_X11_83 : Cond.methodLink RX11 83 yX0_sewAllAsTold ∈ x_TT := x_TT_of (tq_2 (List.mem_of_getElem? (i := 196) rfl)) rfl
theorem wm_X11_86 : Cond.methodLink RX11 86 yX2_forgetActs ∈ x_TT := x_TT_of (tq_2 (List.mem_of_getElem? (i := 200) rfl)) rfl
theorem wm_X11_92 : Cond.methodLink RX11 92 yX11_putOnTape ∈ x_TT := x_TT_of (tq_3 (List.mem_of_getElem? (i := 18) rfl)) rfl
theorem wm_X11_96 : Cond.methodLink RX11 96 yX4_readText ∈ x_TT := x_TT_of (tq_3 (List.mem_of_getElem? (i := 30) rfl)) rfl
theorem wm_X12_175 : Cond.methodLink RX12 175 yX12_four ∈ x_TT := x_TT_of (tq_7 (List.mem_of_getElem? (i := 110) rfl)) rfl
theorem wm_X12_185 : Cond.methodLink RX12 185 yX12_here ∈ x_TT := x_TT_of (tq_7 (List.mem_of_getElem? (i := 130) rfl)) rfl
theorem wm_X12_202 : Cond.methodLink RX12 202 yX12_isLetter ∈ x_TT := x_TT_of (tq_7 (List.mem_of_getElem? (i := 134) rfl)) rfl
theorem wm_X12_206 : Cond.methodLink RX12 206 yX12_isDigit ∈ x_TT := x_TT_of (tq_7 (List.mem_of_getElem? (i := 137) rfl)) rfl
theorem wm_X12_209 : Cond.methodLink RX12 209 yX12_isSign ∈ x_TT := x_TT_of (tq_7 (List.mem_of_getElem? (i := 140) rfl)) rfl
theorem wm_X12_259 : Cond.methodLink RX12 259 yX12_isOwn ∈ x_TT := x_TT_of (tq_7 (List.mem_of_getElem? (i := 164) rfl)) rfl
theorem wm_X12_263 : Cond.methodLink RX12 263 yX12_isWord ∈ x_TT := x_TT_of (tq_7 (List.mem_of_getElem? (i := 148) rfl)) rfl
theorem wm_X12_267 : Cond.methodLink RX12 267 yX12_wrong ∈ x_TT := x_TT_of (tq_7 (List.mem_of_getElem? (i := 189) rfl)) rfl
theorem wm_X12_270 : Cond.methodLink RX12 270 yX12_token ∈ x_TT := x_TT_of (tq_7 (List.mem_of_getElem? (i := 126) rfl)) rfl
theorem wm_X12_273 : Cond.methodLink RX12 273 yX12_want ∈ x_TT := x_TT_of (tq_7 (List.mem_of_getElem? (i := 205) rfl)) rfl
theorem wm_X12_277 : Cond.methodLink RX12 277 yX12_toldNumber ∈ x_TT := x_TT_of (tq_7 (List.mem_of_getElem? (i := 209) rfl)) rfl
theorem wm_X12_281 : Cond.methodLink RX12 281 yX12_told ∈ x_TT := x_TT_of (tq_7 (List.mem_of_getElem? (i := 201) rfl)) rfl
theorem wm_X12_285 : Cond.methodLink RX12 285 yX12_isName ∈ x_TT := x_TT_of (tq_7 (List.mem_of_getElem? (i := 160) rfl)) rfl
theorem wm_X12_288 : Cond.methodLink RX12 288 yX12_find ∈ x_TT := x_TT_of (tq_7 (List.mem_of_getElem? (i := 193) rfl)) rfl
theorem wm_X12_297 : Cond.methodLink RX12 297 yX12_tight ∈ x_TT := x_TT_of (tq_8 (List.mem_of_getElem? (i := 4) rfl)) rfl
theorem wm_X12_300 : Cond.methodLink RX12 300 yX12_add ∈ x_TT := x_TT_of (tq_8 (List.mem_of_getElem? (i := 23) rfl)) rfl
theorem wm_X12_313 : Cond.methodLink RX12 313 yX12_mayNot ∈ x_TT := x_TT_of (tq_8 (List.mem_of_getElem? (i := 0) rfl)) rfl
theorem wm_X12_316 : Cond.methodLink RX12 316 yX12_openUp ∈ x_TT := x_TT_of (tq_8 (List.mem_of_getElem? (i := 7) rfl)) rfl
theorem wm_X12_319 : Cond.methodLink RX12 319 yX12_isFull ∈ x_TT := x_TT_of (tq_8 (List.mem_of_getElem? (i := 11) rfl)) rfl
theorem wm_X12_322 : Cond.methodLink RX12 322 yX12_countUnit ∈ x_TT := x_TT_of (tq_8 (List.mem_of_getElem? (i := 15) rfl)) rfl
theorem wm_X12_325 : Cond.methodLink RX12 325 yX12_asked ∈ x_TT := x_TT_of (tq_8 (List.mem_of_getElem? (i := 19) rfl)) rfl
theorem wm_X12_329 : Cond.methodLink RX12 329 yX12_unit ∈ x_TT := x_TT_of (tq_7 (List.mem_of_getElem? (i := 236) rfl)) rfl
theorem wm_X12_332 : Cond.methodLink RX12 332 yX12_sign ∈ x_TT := x_TT_of (tq_8 (List.mem_of_getElem? (i := 27) rfl)) rfl
theorem wm_X12_335 : Cond.methodLink RX12 335 yX12_hasBracket ∈ x_TT := x_TT_of (tq_8 (List.mem_of_getElem? (i := 31) rfl)) rfl
theorem wm_X12_338 : Cond.methodLink RX12 338 yX12_close ∈ x_TT := x_TT_of (tq_8 (List.mem_of_getElem? (i := 35) rfl)) rfl
theorem wm_X12_341 : Cond.methodLink RX12 341 yX12_hasRelation ∈ x_TT := x_TT_of (tq_8 (List.mem_of_getElem? (i := 39) rfl)) rfl
theorem wm_X12_344 : Cond.methodLink RX12 344 yX12_truth ∈ x_TT := x_TT_of (tq_7 (List.mem_of_getElem? (i := 213) rfl)) rfl
theorem wm_X12_355 : Cond.methodLink RX12 355 yX12_done ∈ x_TT := x_TT_of (tq_8 (List.mem_of_getElem? (i := 123) rfl)) rfl
theorem wm_X12_362 : Cond.methodLink RX12 362 yX12_newName ∈ x_TT := x_TT_of (tq_7 (List.mem_of_getElem? (i := 156) rfl)) rfl
theorem wm_X12_365 : Cond.methodLink RX12 365 yX12_option ∈ x_TT := x_TT_of (tq_7 (List.mem_of_getElem? (i := 197) rfl)) rfl
theorem wm_X12_375 : Cond.methodLink RX12 375 yX12_oldName ∈ x_TT := x_TT_of (tq_7 (List.mem_of_getElem? (i := 224) rfl)) rfl
theorem wm_X12_381 : Cond.methodLink RX12 381 yX12_readMan ∈ x_TT := x_TT_of (tq_7 (List.mem_of_getElem? (i := 152) rfl)) rfl
theorem wm_X12_384 : Cond.methodLink RX12 384 yX12_readDeed ∈ x_TT := x_TT_of (tq_7 (List.mem_of_getElem? (i := 216) rfl)) rfl
theorem wm_X12_387 : Cond.methodLink RX12 387 yX12_readButton ∈ x_TT := x_TT_of (tq_7 (List.mem_of_getElem? (i := 220) rfl)) rfl
theorem wm_X12_390 : Cond.methodLink RX12 390 yX12_readFriend ∈ x_TT := x_TT_of (tq_7 (List.mem_of_getElem? (i := 228) rfl)) rfl
theorem wm_X12_396 : Cond.methodLink RX12 396 yX12_readWear ∈ x_TT := x_TT_of (tq_7 (List.mem_of_getElem? (i := 232) rfl)) rfl
theorem wm_X12_417 : Cond.methodLink RX12 417 yX12_readLine ∈ x_TT := x_TT_of (tq_7 (List.mem_of_getElem? (i := 143) rfl)) rfl
theorem wm_X12_420 : Cond.methodLink RX12 420 yX12_readAll ∈ x_TT := x_TT_of (tq_7 (List.mem_of_getElem? (i := 122) rfl)) rfl
theorem wm_X12_453 : Cond.methodLink RX12 453 yX12_isIn ∈ x_TT := x_TT_of (tq_8 (List.mem_of_getElem? (i := 55) rfl)) rfl
theorem wm_X12_457 : Cond.methodLink RX12 457 yX12_isButton ∈ x_TT := x_TT_of (tq_8 (List.mem_of_getElem? (i := 51) rfl)) rfl
theorem wm_X12_460 : Cond.methodLink RX12 460 yX12_isMan ∈ x_TT := x_TT_of (tq_8 (List.mem_of_getElem? (i := 62) rfl)) rfl
theorem wm_X12_463 : Cond.methodLink RX12 463 yX12_coat ∈ x_TT := x_TT_of (tq_8 (List.mem_of_getElem? (i := 70) rfl)) rfl
theorem wm_X12_466 : Cond.methodLink RX12 466 yX12_isDeed ∈ x_TT := x_TT_of (tq_8 (List.mem_of_getElem? (i := 75) rfl)) rfl
theorem wm_X12_469 : Cond.methodLink RX12 469 yX12_isOn ∈ x_TT := x_TT_of (tq_8 (List.mem_of_getElem? (i := 79) rfl)) rfl
theorem wm_X12_472 : Cond.methodLink RX12 472 yX12_act ∈ x_TT := x_TT_of (tq_8 (List.mem_of_getElem? (i := 91) rfl)) rfl
theorem wm_X12_481 : Cond.methodLink RX12 481 yX12_wearOf ∈ x_TT := x_TT_of (tq_8 (List.mem_of_getElem? (i := 119) rfl)) rfl
theorem wm_X12_485 : Cond.methodLink RX12 485 yX12_load ∈ x_TT := x_TT_of (tq_8 (List.mem_of_getElem? (i := 111) rfl)) rfl
theorem wm_X12_488 : Cond.methodLink RX12 488 yX12_goDay ∈ x_TT := x_TT_of (tq_8 (List.mem_of_getElem? (i := 115) rfl)) rfl
theorem wm_X12_491 : Cond.methodLink RX12 491 yX12_exchange ∈ x_TT := x_TT_of (tq_8 (List.mem_of_getElem? (i := 130) rfl)) rfl
theorem wm_X12_500 : Cond.methodLink RX12 500 yX12_doneOn ∈ x_TT := x_TT_of (tq_8 (List.mem_of_getElem? (i := 158) rfl)) rfl
theorem wm_X12_503 : Cond.methodLink RX12 503 yX12_isForbidden ∈ x_TT := x_TT_of (tq_8 (List.mem_of_getElem? (i := 162) rfl)) rfl
theorem wm_X12_506 : Cond.methodLink RX12 506 yX12_keptOf ∈ x_TT := x_TT_of (tq_8 (List.mem_of_getElem? (i := 166) rfl)) rfl
theorem wm_X12_509 : Cond.methodLink RX12 509 yX12_canPut ∈ x_TT := x_TT_of (tq_8 (List.mem_of_getElem? (i := 154) rfl)) rfl
theorem wm_X12_516 : Cond.methodLink RX12 516 yX12_members ∈ x_TT := x_TT_of (tq_8 (List.mem_of_getElem? (i := 174) rfl)) rfl
theorem wm_X12_525 : Cond.methodLink RX12 525 yX12_isAhead ∈ x_TT := x_TT_of (tq_8 (List.mem_of_getElem? (i := 177) rfl)) rfl
theorem wm_X12_528 : Cond.methodLink RX12 528 yX12_beginOrder ∈ x_TT := x_TT_of (tq_8 (List.mem_of_getElem? (i := 146) rfl)) rfl
theorem wm_X12_531 : Cond.methodLink RX12 531 yX12_nextOrder ∈ x_TT := x_TT_of (tq_8 (List.mem_of_getElem? (i := 150) rfl)) rfl
theorem wm_X12_534 : Cond.methodLink RX12 534 yX12_isBetter ∈ x_TT := x_TT_of (tq_8 (List.mem_of_getElem? (i := 170) rfl)) rfl
theorem wm_X12_537 : Cond.methodLink RX12 537 yX12_layBest ∈ x_TT := x_TT_of (tq_8 (List.mem_of_getElem? (i := 142) rfl)) rfl
theorem wm_X12_540 : Cond.methodLink RX12 540 yX12_layCanKeep ∈ x_TT := x_TT_of (tq_8 (List.mem_of_getElem? (i := 193) rfl)) rfl
theorem wm_X12_543 : Cond.methodLink RX12 543 yX12_leaving ∈ x_TT := x_TT_of (tq_8 (List.mem_of_getElem? (i := 201) rfl)) rfl
theorem wm_X12_546 : Cond.methodLink RX12 546 yX12_threadSame ∈ x_TT := x_TT_of (tq_8 (List.mem_of_getElem? (i := 213) rfl)) rfl
theorem wm_X12_553 : Cond.methodLink RX12 553 yX12_threadBy ∈ x_TT := x_TT_of (tq_8 (List.mem_of_getElem? (i := 223) rfl)) rfl
theorem wm_X12_556 : Cond.methodLink RX12 556 yX12_common ∈ x_TT := x_TT_of (tq_8 (List.mem_of_getElem? (i := 227) rfl)) rfl
theorem wm_X12_561 : Cond.methodLink RX12 561 yX12_daysOf ∈ x_TT := x_TT_of (tq_8 (List.mem_of_getElem? (i := 235) rfl)) rfl
theorem wm_X12_564 : Cond.methodLink RX12 564 yX12_isTold ∈ x_TT := x_TT_of (tq_9 (List.mem_of_getElem? (i := 15) rfl)) rfl
theorem wm_X12_567 : Cond.methodLink RX12 567 yX12_rowsOf ∈ x_TT := x_TT_of (tq_9 (List.mem_of_getElem? (i := 7) rfl)) rfl
theorem wm_X12_570 : Cond.methodLink RX12 570 yX12_layTwos ∈ x_TT := x_TT_of (tq_9 (List.mem_of_getElem? (i := 11) rfl)) rfl
theorem wm_X12_573 : Cond.methodLink RX12 573 yX12_has ∈ x_TT := x_TT_of (tq_9 (List.mem_of_getElem? (i := 19) rfl)) rfl
theorem wm_X12_576 : Cond.methodLink RX12 576 yX12_putTwos ∈ x_TT := x_TT_of (tq_9 (List.mem_of_getElem? (i := 23) rfl)) rfl
theorem wm_X12_579 : Cond.methodLink RX12 579 yX12_isCalm ∈ x_TT := x_TT_of (tq_9 (List.mem_of_getElem? (i := 31) rfl)) rfl
theorem wm_X12_586 : Cond.methodLink RX12 586 yX12_markOf ∈ x_TT := x_TT_of (tq_9 (List.mem_of_getElem? (i := 64) rfl)) rfl
theorem wm_X12_589 : Cond.methodLink RX12 589 yX12_swears ∈ x_TT := x_TT_of (tq_9 (List.mem_of_getElem? (i := 60) rfl)) rfl
theorem wm_X12_592 : Cond.methodLink RX12 592 yX12_swore ∈ x_TT := x_TT_of (tq_9 (List.mem_of_getElem? (i := 72) rfl)) rfl
theorem wm_X12_595 : Cond.methodLink RX12 595 yX12_mostLeft ∈ x_TT := x_TT_of (tq_9 (List.mem_of_getElem? (i := 73) rfl)) rfl
theorem wm_X12_598 : Cond.methodLink RX12 598 yX12_isBox ∈ x_TT := x_TT_of (tq_9 (List.mem_of_getElem? (i := 81) rfl)) rfl
theorem wm_X1_19 : Cond.methodLink RX1 19 yX1_readEither ∈ x_TT := x_TT_of (tq_4 (List.mem_of_getElem? (i := 21) rfl)) rfl
theorem wm_X1_23 : Cond.methodLink RX1 23 yX1_readBoth ∈ x_TT := x_TT_of (tq_4 (List.mem_of_getElem? (i := 25) rfl)) rfl
theorem wm_X1_28 : Cond.methodLink RX1 28 yX7_isWord ∈ x_TT := x_TT_of (tq_4 (List.mem_of_getElem? (i := 33) rfl)) rfl
theorem wm_X1_31 : Cond.methodLink RX1 31 yX7_advance ∈ x_TT := x_TT_of (tq_4 (List.mem_of_getElem? (i := 39) rfl)) rfl
theorem wm_X1_36 : Cond.methodLink RX1 36 yX10_put ∈ x_TT := x_TT_of (tq_4 (List.mem_of_getElem? (i := 40) rfl)) rfl
theorem wm_X1_40 : Cond.methodLink RX1 40 yX1_readOne ∈ x_TT := x_TT_of (tq_4 (List.mem_of_getElem? (i := 29) rfl)) rfl
theorem wm_X1_43 : Cond.methodLink RX1 43 yX1_readNot ∈ x_TT := x_TT_of (tq_4 (List.mem_of_getElem? (i := 34) rfl)) rfl
theorem wm_X1_46 : Cond.methodLink RX1 46 yX1_readSum ∈ x_TT := x_TT_of (tq_4 (List.mem_of_getElem? (i := 44) rfl)) rfl
theorem wm_X1_49 : Cond.methodLink RX1 49 yX7_isSign ∈ x_TT := x_TT_of (tq_4 (List.mem_of_getElem? (i := 56) rfl)) rfl
theorem wm_X1_57 : Cond.methodLink RX1 57 yX7_refuse ∈ x_TT := x_TT_of (tq_4 (List.mem_of_getElem? (i := 38) rfl)) rfl
theorem wm_X1_60 : Cond.methodLink RX1 60 yX1_readTerm ∈ x_TT := x_TT_of (tq_4 (List.mem_of_getElem? (i := 48) rfl)) rfl
theorem wm_X1_63 : Cond.methodLink RX1 63 yX1_readUnit ∈ x_TT := x_TT_of (tq_4 (List.mem_of_getElem? (i := 52) rfl)) rfl
theorem wm_X1_66 : Cond.methodLink RX1 66 yX1_isTermSign ∈ x_TT := x_TT_of (tq_4 (List.mem_of_getElem? (i := 70) rfl)) rfl
theorem wm_X1_73 : Cond.methodLink RX1 73 yX1_readBracket ∈ x_TT := x_TT_of (tq_4 (List.mem_of_getElem? (i := 57) rfl)) rfl
theorem wm_X1_79 : Cond.methodLink RX1 79 yX1_inputSign ∈ x_TT := x_TT_of (tq_4 (List.mem_of_getElem? (i := 66) rfl)) rfl
theorem wm_X1_83 : Cond.methodLink RX1 83 yX7_takesSign ∈ x_TT := x_TT_of (tq_4 (List.mem_of_getElem? (i := 61) rfl)) rfl
theorem wm_X2_31 : Cond.methodLink RX2 31 yX2_writeRow ∈ x_TT := x_TT_of (tq_2 (List.mem_of_getElem? (i := 204) rfl)) rfl
theorem wm_X2_34 : Cond.methodLink RX2 34 arraycopyName ∈ x_TT := x_TT_of (tq_2 (List.mem_of_getElem? (i := 208) rfl)) rfl
theorem wm_X2_40 : Cond.methodLink RX2 40 yX2_readRow ∈ x_TT := x_TT_of (tq_5 (List.mem_of_getElem? (i := 27) rfl)) rfl
theorem wm_X2_49 : Cond.methodLink RX2 49 yX2_forgetActs ∈ x_TT := x_TT_of (tq_6 (List.mem_of_getElem? (i := 42) rfl)) rfl
theorem wm_X3_100 : Cond.methodLink RX3 100 yX3_firstBestDeed ∈ x_TT := x_TT_of (tq_5 (List.mem_of_getElem? (i := 71) rfl)) rfl
theorem wm_X3_106 : Cond.methodLink RX3 106 yX3_markKeepable ∈ x_TT := x_TT_of (tq_5 (List.mem_of_getElem? (i := 106) rfl)) rfl
theorem wm_X3_109 : Cond.methodLink RX3 109 yX3_markOrders ∈ x_TT := x_TT_of (tq_5 (List.mem_of_getElem? (i := 110) rfl)) rfl
theorem wm_X3_45 : Cond.methodLink RX3 45 yX0_isOnMan ∈ x_TT := x_TT_of (tq_5 (List.mem_of_getElem? (i := 47) rfl)) rfl
theorem wm_X3_60 : Cond.methodLink RX3 60 yX3_wonBy ∈ x_TT := x_TT_of (tq_5 (List.mem_of_getElem? (i := 52) rfl)) rfl
theorem wm_X3_64 : Cond.methodLink RX3 64 yJ9_max_7cf53 ∈ x_TT := x_TT_of (tq_5 (List.mem_of_getElem? (i := 66) rfl)) rfl
theorem wm_X3_69 : Cond.methodLink RX3 69 yX3_findBest ∈ x_TT := x_TT_of (tq_5 (List.mem_of_getElem? (i := 92) rfl)) rfl
theorem wm_X3_73 : Cond.methodLink RX3 73 yX3_keptBy ∈ x_TT := x_TT_of (tq_5 (List.mem_of_getElem? (i := 56) rfl)) rfl
theorem wm_X3_76 : Cond.methodLink RX3 76 yJ6_bitCount_0f7a4 ∈ x_TT := x_TT_of (tq_5 (List.mem_of_getElem? (i := 60) rfl)) rfl
theorem wm_X4_101 : Cond.methodLink RX4 101 yX7_advance ∈ x_TT := x_TT_of (tq_3 (List.mem_of_getElem? (i := 181) rfl)) rfl
theorem wm_X4_107 : Cond.methodLink RX4 107 yX4_opens ∈ x_TT := x_TT_of (tq_3 (List.mem_of_getElem? (i := 169) rfl)) rfl
theorem wm_X4_111 : Cond.methodLink RX4 111 yX4_isNewName ∈ x_TT := x_TT_of (tq_3 (List.mem_of_getElem? (i := 182) rfl)) rfl
theorem wm_X4_123 : Cond.methodLink RX4 123 yX4_optional ∈ x_TT := x_TT_of (tq_3 (List.mem_of_getElem? (i := 190) rfl)) rfl
theorem wm_X4_133 : Cond.methodLink RX4 133 yX7_isWord ∈ x_TT := x_TT_of (tq_3 (List.mem_of_getElem? (i := 194) rfl)) rfl
theorem wm_X4_139 : Cond.methodLink RX4 139 yX7_takesWord ∈ x_TT := x_TT_of (tq_3 (List.mem_of_getElem? (i := 206) rfl)) rfl
theorem wm_X4_145 : Cond.methodLink RX4 145 yX4_number ∈ x_TT := x_TT_of (tq_3 (List.mem_of_getElem? (i := 198) rfl)) rfl
theorem wm_X4_152 : Cond.methodLink RX4 152 yX4_readWhose ∈ x_TT := x_TT_of (tq_3 (List.mem_of_getElem? (i := 216) rfl)) rfl
theorem wm_X4_155 : Cond.methodLink RX4 155 yX4_readPromise ∈ x_TT := x_TT_of (tq_3 (List.mem_of_getElem? (i := 224) rfl)) rfl
theorem wm_X4_164 : Cond.methodLink RX4 164 yX4_readAfter ∈ x_TT := x_TT_of (tq_3 (List.mem_of_getElem? (i := 228) rfl)) rfl
theorem wm_X4_167 : Cond.methodLink RX4 167 yX4_oldName ∈ x_TT := x_TT_of (tq_3 (List.mem_of_getElem? (i := 220) rfl)) rfl
theorem wm_X4_189 : Cond.methodLink RX4 189 yX5_worthOf ∈ x_TT := x_TT_of (tq_3 (List.mem_of_getElem? (i := 236) rfl)) rfl
theorem wm_X4_192 : Cond.methodLink RX4 192 yX4_readWorth ∈ x_TT := x_TT_of (tq_4 (List.mem_of_getElem? (i := 0) rfl)) rfl
theorem wm_X4_195 : Cond.methodLink RX4 195 yX7_isSign ∈ x_TT := x_TT_of (tq_4 (List.mem_of_getElem? (i := 4) rfl)) rfl
theorem wm_X4_201 : Cond.methodLink RX4 201 yX7_refuseAt ∈ x_TT := x_TT_of (tq_4 (List.mem_of_getElem? (i := 8) rfl)) rfl
theorem wm_X4_204 : Cond.methodLink RX4 204 yX5_befriend ∈ x_TT := x_TT_of (tq_4 (List.mem_of_getElem? (i := 9) rfl)) rfl
theorem wm_X4_217 : Cond.methodLink RX4 217 yX4_find ∈ x_TT := x_TT_of (tq_3 (List.mem_of_getElem? (i := 186) rfl)) rfl
theorem wm_X4_48 : Cond.methodLink RX4 48 yX5_empty ∈ x_TT := x_TT_of (tq_3 (List.mem_of_getElem? (i := 34) rfl)) rfl
theorem wm_X4_55 : Cond.methodLink RX4 55 yX7_open ∈ x_TT := x_TT_of (tq_3 (List.mem_of_getElem? (i := 35) rfl)) rfl
theorem wm_X4_65 : Cond.methodLink RX4 65 yX4_readMan ∈ x_TT := x_TT_of (tq_3 (List.mem_of_getElem? (i := 165) rfl)) rfl
theorem wm_X4_69 : Cond.methodLink RX4 69 yX4_readDeed ∈ x_TT := x_TT_of (tq_3 (List.mem_of_getElem? (i := 202) rfl)) rfl
theorem wm_X4_72 : Cond.methodLink RX4 72 yX4_readButton ∈ x_TT := x_TT_of (tq_3 (List.mem_of_getElem? (i := 212) rfl)) rfl
theorem wm_X4_75 : Cond.methodLink RX4 75 yX4_readFriend ∈ x_TT := x_TT_of (tq_3 (List.mem_of_getElem? (i := 232) rfl)) rfl
theorem wm_X4_78 : Cond.methodLink RX4 78 yX4_opensOnce ∈ x_TT := x_TT_of (tq_4 (List.mem_of_getElem? (i := 13) rfl)) rfl
theorem wm_X4_81 : Cond.methodLink RX4 81 yX1_readFormula ∈ x_TT := x_TT_of (tq_4 (List.mem_of_getElem? (i := 17) rfl)) rfl
theorem wm_X4_84 : Cond.methodLink RX4 84 yX4_readHoursOfDay ∈ x_TT := x_TT_of (tq_4 (List.mem_of_getElem? (i := 74) rfl)) rfl
theorem wm_X4_87 : Cond.methodLink RX4 87 yX4_readStorm ∈ x_TT := x_TT_of (tq_4 (List.mem_of_getElem? (i := 78) rfl)) rfl
theorem wm_X4_90 : Cond.methodLink RX4 90 yX4_readDraw ∈ x_TT := x_TT_of (tq_4 (List.mem_of_getElem? (i := 82) rfl)) rfl
theorem wm_X4_93 : Cond.methodLink RX4 93 yX7_refuse ∈ x_TT := x_TT_of (tq_3 (List.mem_of_getElem? (i := 173) rfl)) rfl
theorem wm_X4_97 : Cond.methodLink RX4 97 yX7_takesSign ∈ x_TT := x_TT_of (tq_4 (List.mem_of_getElem? (i := 86) rfl)) rfl
theorem wm_X5_71 : Cond.methodLink RX5 71 yX10_empty ∈ x_TT := x_TT_of (tq_1 (List.mem_of_getElem? (i := 63) rfl)) rfl
theorem wm_X5_81 : Cond.methodLink RX5 81 yX5_copy ∈ x_TT := x_TT_of (tq_4 (List.mem_of_getElem? (i := 91) rfl)) rfl
theorem wm_X5_85 : Cond.methodLink RX5 85 yX10_takeOver ∈ x_TT := x_TT_of (tq_4 (List.mem_of_getElem? (i := 94) rfl)) rfl
theorem wm_X6_19 : Cond.methodLink RX6 19 yX0_threadOf ∈ x_TT := x_TT_of (tq_5 (List.mem_of_getElem? (i := 136) rfl)) rfl
theorem wm_X6_25 : Cond.methodLink RX6 25 yX0_today ∈ x_TT := x_TT_of (tq_5 (List.mem_of_getElem? (i := 137) rfl)) rfl
theorem wm_X6_29 : Cond.methodLink RX6 29 yX0_worn ∈ x_TT := x_TT_of (tq_5 (List.mem_of_getElem? (i := 138) rfl)) rfl
theorem wm_X6_33 : Cond.methodLink RX6 33 yX6_threadBehind ∈ x_TT := x_TT_of (tq_5 (List.mem_of_getElem? (i := 147) rfl)) rfl
theorem wm_X6_37 : Cond.methodLink RX6 37 yX6_waysOf ∈ x_TT := x_TT_of (tq_5 (List.mem_of_getElem? (i := 148) rfl)) rfl
theorem wm_X6_43 : Cond.methodLink RX6 43 yX6_commonDivisor ∈ x_TT := x_TT_of (tq_5 (List.mem_of_getElem? (i := 153) rfl)) rfl
theorem wm_X6_53 : Cond.methodLink RX6 53 yX0_stateOf ∈ x_TT := x_TT_of (tq_5 (List.mem_of_getElem? (i := 172) rfl)) rfl
theorem wm_X6_56 : Cond.methodLink RX6 56 yX0_seed ∈ x_TT := x_TT_of (tq_5 (List.mem_of_getElem? (i := 173) rfl)) rfl
theorem wm_X6_59 : Cond.methodLink RX6 59 yX0_nextSeed ∈ x_TT := x_TT_of (tq_5 (List.mem_of_getElem? (i := 174) rfl)) rfl
theorem wm_X6_62 : Cond.methodLink RX6 62 yX0_stormBy ∈ x_TT := x_TT_of (tq_5 (List.mem_of_getElem? (i := 175) rfl)) rfl
theorem wm_X6_65 : Cond.methodLink RX6 65 yX0_stateAfterWear ∈ x_TT := x_TT_of (tq_5 (List.mem_of_getElem? (i := 176) rfl)) rfl
theorem wm_X7_15 : Cond.methodLink RX7 15 yJ9_min_7cf53 ∈ x_TT := x_TT_of (tq_3 (List.mem_of_getElem? (i := 39) rfl)) rfl
theorem wm_X7_34 : Cond.methodLink RX7 34 yX7_advance ∈ x_TT := x_TT_of (tq_3 (List.mem_of_getElem? (i := 42) rfl)) rfl
theorem wm_X7_43 : Cond.methodLink RX7 43 yX7_takeLetters ∈ x_TT := x_TT_of (tq_3 (List.mem_of_getElem? (i := 46) rfl)) rfl
theorem wm_X7_50 : Cond.methodLink RX7 50 yX7_wordNumber ∈ x_TT := x_TT_of (tq_3 (List.mem_of_getElem? (i := 51) rfl)) rfl
theorem wm_X7_57 : Cond.methodLink RX7 57 yX7_takeDigits ∈ x_TT := x_TT_of (tq_3 (List.mem_of_getElem? (i := 103) rfl)) rfl
theorem wm_X7_62 : Cond.methodLink RX7 62 yJ0_indexOf_0f7a4 ∈ x_TT := x_TT_of (tq_3 (List.mem_of_getElem? (i := 108) rfl)) rfl
theorem wm_X7_72 : Cond.methodLink RX7 72 yJ0_length_8abf5 ∈ x_TT := x_TT_of (tq_3 (List.mem_of_getElem? (i := 55) rfl)) rfl
theorem wm_X7_75 : Cond.methodLink RX7 75 yJ0_charAt_5068e ∈ x_TT := x_TT_of (tq_3 (List.mem_of_getElem? (i := 65) rfl)) rfl
theorem wm_X7_79 : Cond.methodLink RX7 79 yX7_isWord ∈ x_TT := x_TT_of (tq_3 (List.mem_of_getElem? (i := 210) rfl)) rfl
theorem wm_X7_83 : Cond.methodLink RX7 83 yX7_refuse ∈ x_TT := x_TT_of (tq_3 (List.mem_of_getElem? (i := 211) rfl)) rfl
theorem wm_X7_86 : Cond.methodLink RX7 86 yX7_isSign ∈ x_TT := x_TT_of (tq_4 (List.mem_of_getElem? (i := 65) rfl)) rfl
theorem wm_X7_90 : Cond.methodLink RX7 90 yX7_refuseAt ∈ x_TT := x_TT_of (tq_3 (List.mem_of_getElem? (i := 177) rfl)) rfl
theorem wm_X8_36 : Cond.methodLink RX8 36 yX8_pairFrom ∈ x_TT := x_TT_of (tq_5 (List.mem_of_getElem? (i := 185) rfl)) rfl
theorem wm_X8_45 : Cond.methodLink RX8 45 yX8_weigh ∈ x_TT := x_TT_of (tq_5 (List.mem_of_getElem? (i := 189) rfl)) rfl
theorem wm_X8_48 : Cond.methodLink RX8 48 yX5_worthOf ∈ x_TT := x_TT_of (tq_5 (List.mem_of_getElem? (i := 198) rfl)) rfl
theorem wm_X8_52 : Cond.methodLink RX8 52 yX8_has ∈ x_TT := x_TT_of (tq_5 (List.mem_of_getElem? (i := 193) rfl)) rfl
theorem wm_X8_56 : Cond.methodLink RX8 56 yX8_copyWith ∈ x_TT := x_TT_of (tq_5 (List.mem_of_getElem? (i := 199) rfl)) rfl
theorem wm_X8_60 : Cond.methodLink RX8 60 yX8_isCalm ∈ x_TT := x_TT_of (tq_5 (List.mem_of_getElem? (i := 203) rfl)) rfl
theorem wm_X8_64 : Cond.methodLink RX8 64 yX5_hasMan ∈ x_TT := x_TT_of (tq_5 (List.mem_of_getElem? (i := 197) rfl)) rfl
theorem wm_X9_44 : Cond.methodLink RX9 44 yX9_fits ∈ x_TT := x_TT_of (tq_6 (List.mem_of_getElem? (i := 9) rfl)) rfl
theorem wm_X9_48 : Cond.methodLink RX9 48 yX5_traitOf ∈ x_TT := x_TT_of (tq_6 (List.mem_of_getElem? (i := 13) rfl)) rfl
theorem wm_X9_52 : Cond.methodLink RX9 52 yJ9_max_7cf53 ∈ x_TT := x_TT_of (tq_6 (List.mem_of_getElem? (i := 25) rfl)) rfl
theorem wn_arraycopy : Cond.native arraycopyName ∈ x_TT := x_TT_of (tq_2 (List.mem_of_getElem? (i := 210) rfl)) rfl
theorem ws_arraycopy : Cond.static arraycopyName ∈ x_TT := x_TT_of (tq_2 (List.mem_of_getElem? (i := 209) rfl)) rfl
theorem ws_max : Cond.static yJ9_max_7cf53 ∈ x_TT := x_TT_of (tq_3 (List.mem_of_getElem? (i := 124) rfl)) rfl
theorem ws_min : Cond.static yJ9_min_7cf53 ∈ x_TT := x_TT_of (tq_3 (List.mem_of_getElem? (i := 40) rfl)) rfl
theorem wt_J6_bitCount_0f7a4 : Cond.static yJ6_bitCount_0f7a4 ∈ x_TT := x_TT_of (tq_5 (List.mem_of_getElem? (i := 61) rfl)) rfl
theorem wt_X0_nextSeed : Cond.static yX0_nextSeed ∈ x_TT := x_TT_of (tq_4 (List.mem_of_getElem? (i := 226) rfl)) rfl
theorem wt_X10_join : Cond.static yX10_join ∈ x_TT := x_TT_of (tq_5 (List.mem_of_getElem? (i := 11) rfl)) rfl
theorem wt_X10_truth : Cond.static yX10_truth ∈ x_TT := x_TT_of (tq_5 (List.mem_of_getElem? (i := 8) rfl)) rfl
theorem wt_X12_common : Cond.static yX12_common ∈ x_TT := x_TT_of (tq_8 (List.mem_of_getElem? (i := 228) rfl)) rfl
theorem wt_X12_done : Cond.static yX12_done ∈ x_TT := x_TT_of (tq_8 (List.mem_of_getElem? (i := 124) rfl)) rfl
theorem wt_X12_isBox : Cond.static yX12_isBox ∈ x_TT := x_TT_of (tq_9 (List.mem_of_getElem? (i := 82) rfl)) rfl
theorem wt_X12_isDigit : Cond.static yX12_isDigit ∈ x_TT := x_TT_of (tq_7 (List.mem_of_getElem? (i := 138) rfl)) rfl
theorem wt_X12_isIn : Cond.static yX12_isIn ∈ x_TT := x_TT_of (tq_8 (List.mem_of_getElem? (i := 56) rfl)) rfl
theorem wt_X12_isLetter : Cond.static yX12_isLetter ∈ x_TT := x_TT_of (tq_7 (List.mem_of_getElem? (i := 135) rfl)) rfl
theorem wt_X12_isSign : Cond.static yX12_isSign ∈ x_TT := x_TT_of (tq_7 (List.mem_of_getElem? (i := 141) rfl)) rfl
theorem wt_X12_members : Cond.static yX12_members ∈ x_TT := x_TT_of (tq_8 (List.mem_of_getElem? (i := 175) rfl)) rfl
theorem wt_X12_tight : Cond.static yX12_tight ∈ x_TT := x_TT_of (tq_8 (List.mem_of_getElem? (i := 5) rfl)) rfl
theorem wt_X12_truth : Cond.static yX12_truth ∈ x_TT := x_TT_of (tq_7 (List.mem_of_getElem? (i := 214) rfl)) rfl
theorem wt_X5_copy : Cond.static yX5_copy ∈ x_TT := x_TT_of (tq_4 (List.mem_of_getElem? (i := 92) rfl)) rfl
theorem wt_X6_commonDivisor : Cond.static yX6_commonDivisor ∈ x_TT := x_TT_of (tq_5 (List.mem_of_getElem? (i := 154) rfl)) rfl
theorem wt_X7_wordNumber : Cond.static yX7_wordNumber ∈ x_TT := x_TT_of (tq_3 (List.mem_of_getElem? (i := 52) rfl)) rfl
theorem wv_X0_cutOff : Cond.instanceMethod yX0_cutOff ∈ x_TT := x_TT_of (tq_4 (List.mem_of_getElem? (i := 198) rfl)) rfl
theorem wv_X0_cuts : Cond.instanceMethod yX0_cuts ∈ x_TT := x_TT_of (tq_4 (List.mem_of_getElem? (i := 194) rfl)) rfl
theorem wv_X0_doDeed : Cond.instanceMethod yX0_doDeed ∈ x_TT := x_TT_of (tq_4 (List.mem_of_getElem? (i := 160) rfl)) rfl
theorem wv_X0_isOn : Cond.instanceMethod yX0_isOn ∈ x_TT := x_TT_of (tq_4 (List.mem_of_getElem? (i := 140) rfl)) rfl
theorem wv_X0_isOnMan : Cond.instanceMethod yX0_isOnMan ∈ x_TT := x_TT_of (tq_4 (List.mem_of_getElem? (i := 164) rfl)) rfl
theorem wv_X0_leaveBits : Cond.instanceMethod yX0_leaveBits ∈ x_TT := x_TT_of (tq_5 (List.mem_of_getElem? (i := 119) rfl)) rfl
theorem wv_X0_passDay : Cond.instanceMethod yX0_passDay ∈ x_TT := x_TT_of (tq_4 (List.mem_of_getElem? (i := 218) rfl)) rfl
theorem wv_X0_seed : Cond.instanceMethod yX0_seed ∈ x_TT := x_TT_of (tq_4 (List.mem_of_getElem? (i := 222) rfl)) rfl
theorem wv_X0_sewAllAsTold : Cond.instanceMethod yX0_sewAllAsTold ∈ x_TT := x_TT_of (tq_2 (List.mem_of_getElem? (i := 197) rfl)) rfl
theorem wv_X0_sewAnew : Cond.instanceMethod yX0_sewAnew ∈ x_TT := x_TT_of (tq_4 (List.mem_of_getElem? (i := 206) rfl)) rfl
theorem wv_X0_stateAfterWear : Cond.instanceMethod yX0_stateAfterWear ∈ x_TT := x_TT_of (tq_5 (List.mem_of_getElem? (i := 16) rfl)) rfl
theorem wv_X0_stateOf : Cond.instanceMethod yX0_stateOf ∈ x_TT := x_TT_of (tq_4 (List.mem_of_getElem? (i := 120) rfl)) rfl
theorem wv_X0_stormBy : Cond.instanceMethod yX0_stormBy ∈ x_TT := x_TT_of (tq_4 (List.mem_of_getElem? (i := 229) rfl)) rfl
theorem wv_X0_threadOf : Cond.instanceMethod yX0_threadOf ∈ x_TT := x_TT_of (tq_4 (List.mem_of_getElem? (i := 124) rfl)) rfl
theorem wv_X0_today : Cond.instanceMethod yX0_today ∈ x_TT := x_TT_of (tq_4 (List.mem_of_getElem? (i := 214) rfl)) rfl
theorem wv_X0_unbutton : Cond.instanceMethod yX0_unbutton ∈ x_TT := x_TT_of (tq_4 (List.mem_of_getElem? (i := 186) rfl)) rfl
theorem wv_X0_waits : Cond.instanceMethod yX0_waits ∈ x_TT := x_TT_of (tq_4 (List.mem_of_getElem? (i := 180) rfl)) rfl
theorem wv_X0_worn : Cond.instanceMethod yX0_worn ∈ x_TT := x_TT_of (tq_4 (List.mem_of_getElem? (i := 235) rfl)) rfl
theorem wv_X10_amount : Cond.instanceMethod yX10_amount ∈ x_TT := x_TT_of (tq_5 (List.mem_of_getElem? (i := 0) rfl)) rfl
theorem wv_X10_empty : Cond.instanceMethod yX10_empty ∈ x_TT := x_TT_of (tq_1 (List.mem_of_getElem? (i := 64) rfl)) rfl
theorem wv_X10_push : Cond.instanceMethod yX10_push ∈ x_TT := x_TT_of (tq_5 (List.mem_of_getElem? (i := 5) rfl)) rfl
theorem wv_X10_put : Cond.instanceMethod yX10_put ∈ x_TT := x_TT_of (tq_4 (List.mem_of_getElem? (i := 41) rfl)) rfl
theorem wv_X10_takeOver : Cond.instanceMethod yX10_takeOver ∈ x_TT := x_TT_of (tq_4 (List.mem_of_getElem? (i := 95) rfl)) rfl
theorem wv_X11_about : Cond.instanceMethod yX11_about ∈ x_TT := x_TT_of (tq_6 (List.mem_of_getElem? (i := 44) rfl)) rfl
theorem wv_X11_ask : Cond.instanceMethod yX11_ask ∈ x_TT := x_TT_of (tq_6 (List.mem_of_getElem? (i := 18) rfl)) rfl
theorem wv_X11_asked : Cond.instanceMethod yX11_asked ∈ x_TT := x_TT_of (tq_5 (List.mem_of_getElem? (i := 124) rfl)) rfl
theorem wv_X11_back : Cond.instanceMethod yX11_back ∈ x_TT := x_TT_of (tq_6 (List.mem_of_getElem? (i := 35) rfl)) rfl
theorem wv_X11_button : Cond.instanceMethod yX11_button ∈ x_TT := x_TT_of (tq_4 (List.mem_of_getElem? (i := 112) rfl)) rfl
theorem wv_X11_calm : Cond.instanceMethod yX11_calm ∈ x_TT := x_TT_of (tq_5 (List.mem_of_getElem? (i := 208) rfl)) rfl
theorem wv_X11_clash : Cond.instanceMethod yX11_clash ∈ x_TT := x_TT_of (tq_5 (List.mem_of_getElem? (i := 99) rfl)) rfl
theorem wv_X11_coat : Cond.instanceMethod yX11_coat ∈ x_TT := x_TT_of (tq_4 (List.mem_of_getElem? (i := 128) rfl)) rfl
theorem wv_X11_cut : Cond.instanceMethod yX11_cut ∈ x_TT := x_TT_of (tq_4 (List.mem_of_getElem? (i := 190) rfl)) rfl
theorem wv_X11_day : Cond.instanceMethod yX11_day ∈ x_TT := x_TT_of (tq_4 (List.mem_of_getElem? (i := 210) rfl)) rfl
theorem wv_X11_does : Cond.instanceMethod yX11_does ∈ x_TT := x_TT_of (tq_4 (List.mem_of_getElem? (i := 156) rfl)) rfl
theorem wv_X11_end : Cond.instanceMethod yX11_end ∈ x_TT := x_TT_of (tq_3 (List.mem_of_getElem? (i := 23) rfl)) rfl
theorem wv_X11_fault : Cond.instanceMethod yX11_fault ∈ x_TT := x_TT_of (tq_4 (List.mem_of_getElem? (i := 108) rfl)) rfl
theorem wv_X11_feed : Cond.instanceMethod yX11_feed ∈ x_TT := x_TT_of (tq_3 (List.mem_of_getElem? (i := 15) rfl)) rfl
theorem wv_X11_first : Cond.instanceMethod yX11_first ∈ x_TT := x_TT_of (tq_5 (List.mem_of_getElem? (i := 157) rfl)) rfl
theorem wv_X11_free : Cond.instanceMethod yX11_free ∈ x_TT := x_TT_of (tq_4 (List.mem_of_getElem? (i := 136) rfl)) rfl
theorem wv_X11_holds : Cond.instanceMethod yX11_holds ∈ x_TT := x_TT_of (tq_5 (List.mem_of_getElem? (i := 128) rfl)) rfl
theorem wv_X11_image : Cond.instanceMethod yX11_image ∈ x_TT := x_TT_of (tq_6 (List.mem_of_getElem? (i := 27) rfl)) rfl
theorem wv_X11_isButtonOn : Cond.instanceMethod yX11_isButtonOn ∈ x_TT := x_TT_of (tq_4 (List.mem_of_getElem? (i := 177) rfl)) rfl
theorem wv_X11_keep : Cond.instanceMethod yX11_keep ∈ x_TT := x_TT_of (tq_5 (List.mem_of_getElem? (i := 40) rfl)) rfl
theorem wv_X11_later : Cond.instanceMethod yX11_later ∈ x_TT := x_TT_of (tq_5 (List.mem_of_getElem? (i := 237) rfl)) rfl
theorem wv_X11_layDown : Cond.instanceMethod yX11_layDown ∈ x_TT := x_TT_of (tq_5 (List.mem_of_getElem? (i := 81) rfl)) rfl
theorem wv_X11_layOut : Cond.instanceMethod yX11_layOut ∈ x_TT := x_TT_of (tq_5 (List.mem_of_getElem? (i := 77) rfl)) rfl
theorem wv_X11_leave : Cond.instanceMethod yX11_leave ∈ x_TT := x_TT_of (tq_5 (List.mem_of_getElem? (i := 115) rfl)) rfl
theorem wv_X11_lies : Cond.instanceMethod yX11_lies ∈ x_TT := x_TT_of (tq_5 (List.mem_of_getElem? (i := 217) rfl)) rfl
theorem wv_X11_likes : Cond.instanceMethod yX11_likes ∈ x_TT := x_TT_of (tq_5 (List.mem_of_getElem? (i := 212) rfl)) rfl
theorem wv_X11_many : Cond.instanceMethod yX11_many ∈ x_TT := x_TT_of (tq_4 (List.mem_of_getElem? (i := 152) rfl)) rfl
theorem wv_X11_odds : Cond.instanceMethod yX11_odds ∈ x_TT := x_TT_of (tq_5 (List.mem_of_getElem? (i := 140) rfl)) rfl
theorem wv_X11_putOnTape : Cond.instanceMethod yX11_putOnTape ∈ x_TT := x_TT_of (tq_3 (List.mem_of_getElem? (i := 20) rfl)) rfl
theorem wv_X11_redo : Cond.instanceMethod yX11_redo ∈ x_TT := x_TT_of (tq_5 (List.mem_of_getElem? (i := 32) rfl)) rfl
theorem wv_X11_regiment : Cond.instanceMethod yX11_regiment ∈ x_TT := x_TT_of (tq_3 (List.mem_of_getElem? (i := 27) rfl)) rfl
theorem wv_X11_rest : Cond.instanceMethod yX11_rest ∈ x_TT := x_TT_of (tq_5 (List.mem_of_getElem? (i := 85) rfl)) rfl
theorem wv_X11_sew : Cond.instanceMethod yX11_sew ∈ x_TT := x_TT_of (tq_4 (List.mem_of_getElem? (i := 202) rfl)) rfl
theorem wv_X11_swore : Cond.instanceMethod yX11_swore ∈ x_TT := x_TT_of (tq_6 (List.mem_of_getElem? (i := 2) rfl)) rfl
theorem wv_X11_sworn : Cond.instanceMethod yX11_sworn ∈ x_TT := x_TT_of (tq_4 (List.mem_of_getElem? (i := 144) rfl)) rfl
theorem wv_X11_ties : Cond.instanceMethod yX11_ties ∈ x_TT := x_TT_of (tq_5 (List.mem_of_getElem? (i := 94) rfl)) rfl
theorem wv_X11_truce : Cond.instanceMethod yX11_truce ∈ x_TT := x_TT_of (tq_5 (List.mem_of_getElem? (i := 178) rfl)) rfl
theorem wv_X11_tug : Cond.instanceMethod yX11_tug ∈ x_TT := x_TT_of (tq_5 (List.mem_of_getElem? (i := 221) rfl)) rfl
theorem wv_X11_undo : Cond.instanceMethod yX11_undo ∈ x_TT := x_TT_of (tq_5 (List.mem_of_getElem? (i := 20) rfl)) rfl
theorem wv_X11_undoes : Cond.instanceMethod yX11_undoes ∈ x_TT := x_TT_of (tq_4 (List.mem_of_getElem? (i := 172) rfl)) rfl
theorem wv_X11_untell : Cond.instanceMethod yX11_untell ∈ x_TT := x_TT_of (tq_5 (List.mem_of_getElem? (i := 229) rfl)) rfl
theorem wv_X11_will : Cond.instanceMethod yX11_will ∈ x_TT := x_TT_of (tq_5 (List.mem_of_getElem? (i := 165) rfl)) rfl
theorem wv_X12_about : Cond.instanceMethod yX12_about ∈ x_TT := x_TT_of (tq_9 (List.mem_of_getElem? (i := 89) rfl)) rfl
theorem wv_X12_act : Cond.instanceMethod yX12_act ∈ x_TT := x_TT_of (tq_8 (List.mem_of_getElem? (i := 93) rfl)) rfl
theorem wv_X12_add : Cond.instanceMethod yX12_add ∈ x_TT := x_TT_of (tq_8 (List.mem_of_getElem? (i := 25) rfl)) rfl
theorem wv_X12_ask : Cond.instanceMethod yX12_ask ∈ x_TT := x_TT_of (tq_9 (List.mem_of_getElem? (i := 69) rfl)) rfl
theorem wv_X12_asked : Cond.instanceMethod yX12_asked ∈ x_TT := x_TT_of (tq_8 (List.mem_of_getElem? (i := 21) rfl)) rfl
theorem wv_X12_asked_ : Cond.instanceMethod yX12_asked_ ∈ x_TT := x_TT_of (tq_8 (List.mem_of_getElem? (i := 206) rfl)) rfl
theorem wv_X12_back : Cond.instanceMethod yX12_back ∈ x_TT := x_TT_of (tq_9 (List.mem_of_getElem? (i := 85) rfl)) rfl
theorem wv_X12_beginOrder : Cond.instanceMethod yX12_beginOrder ∈ x_TT := x_TT_of (tq_8 (List.mem_of_getElem? (i := 148) rfl)) rfl
theorem wv_X12_button : Cond.instanceMethod yX12_button ∈ x_TT := x_TT_of (tq_8 (List.mem_of_getElem? (i := 48) rfl)) rfl
theorem wv_X12_calm : Cond.instanceMethod yX12_calm ∈ x_TT := x_TT_of (tq_9 (List.mem_of_getElem? (i := 28) rfl)) rfl
theorem wv_X12_canPut : Cond.instanceMethod yX12_canPut ∈ x_TT := x_TT_of (tq_8 (List.mem_of_getElem? (i := 156) rfl)) rfl
theorem wv_X12_clash : Cond.instanceMethod yX12_clash ∈ x_TT := x_TT_of (tq_8 (List.mem_of_getElem? (i := 190) rfl)) rfl
theorem wv_X12_close : Cond.instanceMethod yX12_close ∈ x_TT := x_TT_of (tq_8 (List.mem_of_getElem? (i := 37) rfl)) rfl
theorem wv_X12_coat : Cond.instanceMethod yX12_coat ∈ x_TT := x_TT_of (tq_8 (List.mem_of_getElem? (i := 59) rfl)) rfl
theorem wv_X12_countUnit : Cond.instanceMethod yX12_countUnit ∈ x_TT := x_TT_of (tq_8 (List.mem_of_getElem? (i := 17) rfl)) rfl
theorem wv_X12_cut : Cond.instanceMethod yX12_cut ∈ x_TT := x_TT_of (tq_8 (List.mem_of_getElem? (i := 100) rfl)) rfl
theorem wv_X12_day : Cond.instanceMethod yX12_day ∈ x_TT := x_TT_of (tq_8 (List.mem_of_getElem? (i := 108) rfl)) rfl
theorem wv_X12_daysOf : Cond.instanceMethod yX12_daysOf ∈ x_TT := x_TT_of (tq_8 (List.mem_of_getElem? (i := 237) rfl)) rfl
theorem wv_X12_does : Cond.instanceMethod yX12_does ∈ x_TT := x_TT_of (tq_8 (List.mem_of_getElem? (i := 88) rfl)) rfl
theorem wv_X12_doneOn : Cond.instanceMethod yX12_doneOn ∈ x_TT := x_TT_of (tq_8 (List.mem_of_getElem? (i := 160) rfl)) rfl
theorem wv_X12_end : Cond.instanceMethod yX12_end ∈ x_TT := x_TT_of (tq_7 (List.mem_of_getElem? (i := 115) rfl)) rfl
theorem wv_X12_exchange : Cond.instanceMethod yX12_exchange ∈ x_TT := x_TT_of (tq_8 (List.mem_of_getElem? (i := 132) rfl)) rfl
theorem wv_X12_fault : Cond.instanceMethod yX12_fault ∈ x_TT := x_TT_of (tq_8 (List.mem_of_getElem? (i := 44) rfl)) rfl
theorem wv_X12_feed : Cond.instanceMethod yX12_feed ∈ x_TT := x_TT_of (tq_7 (List.mem_of_getElem? (i := 107) rfl)) rfl
theorem wv_X12_find : Cond.instanceMethod yX12_find ∈ x_TT := x_TT_of (tq_7 (List.mem_of_getElem? (i := 195) rfl)) rfl
theorem wv_X12_first : Cond.instanceMethod yX12_first ∈ x_TT := x_TT_of (tq_8 (List.mem_of_getElem? (i := 231) rfl)) rfl
theorem wv_X12_four : Cond.instanceMethod yX12_four ∈ x_TT := x_TT_of (tq_7 (List.mem_of_getElem? (i := 112) rfl)) rfl
theorem wv_X12_free : Cond.instanceMethod yX12_free ∈ x_TT := x_TT_of (tq_8 (List.mem_of_getElem? (i := 67) rfl)) rfl
theorem wv_X12_goDay : Cond.instanceMethod yX12_goDay ∈ x_TT := x_TT_of (tq_8 (List.mem_of_getElem? (i := 117) rfl)) rfl
theorem wv_X12_has : Cond.instanceMethod yX12_has ∈ x_TT := x_TT_of (tq_9 (List.mem_of_getElem? (i := 21) rfl)) rfl
theorem wv_X12_hasBracket : Cond.instanceMethod yX12_hasBracket ∈ x_TT := x_TT_of (tq_8 (List.mem_of_getElem? (i := 33) rfl)) rfl
theorem wv_X12_hasRelation : Cond.instanceMethod yX12_hasRelation ∈ x_TT := x_TT_of (tq_8 (List.mem_of_getElem? (i := 41) rfl)) rfl
theorem wv_X12_here : Cond.instanceMethod yX12_here ∈ x_TT := x_TT_of (tq_7 (List.mem_of_getElem? (i := 132) rfl)) rfl
theorem wv_X12_holds : Cond.instanceMethod yX12_holds ∈ x_TT := x_TT_of (tq_8 (List.mem_of_getElem? (i := 210) rfl)) rfl
theorem wv_X12_image : Cond.instanceMethod yX12_image ∈ x_TT := x_TT_of (tq_9 (List.mem_of_getElem? (i := 78) rfl)) rfl
theorem wv_X12_isAhead : Cond.instanceMethod yX12_isAhead ∈ x_TT := x_TT_of (tq_8 (List.mem_of_getElem? (i := 179) rfl)) rfl
theorem wv_X12_isBetter : Cond.instanceMethod yX12_isBetter ∈ x_TT := x_TT_of (tq_8 (List.mem_of_getElem? (i := 172) rfl)) rfl
theorem wv_X12_isButton : Cond.instanceMethod yX12_isButton ∈ x_TT := x_TT_of (tq_8 (List.mem_of_getElem? (i := 53) rfl)) rfl
theorem wv_X12_isCalm : Cond.instanceMethod yX12_isCalm ∈ x_TT := x_TT_of (tq_9 (List.mem_of_getElem? (i := 33) rfl)) rfl
theorem wv_X12_isDeed : Cond.instanceMethod yX12_isDeed ∈ x_TT := x_TT_of (tq_8 (List.mem_of_getElem? (i := 77) rfl)) rfl
theorem wv_X12_isForbidden : Cond.instanceMethod yX12_isForbidden ∈ x_TT := x_TT_of (tq_8 (List.mem_of_getElem? (i := 164) rfl)) rfl
theorem wv_X12_isFull : Cond.instanceMethod yX12_isFull ∈ x_TT := x_TT_of (tq_8 (List.mem_of_getElem? (i := 13) rfl)) rfl
theorem wv_X12_isMan : Cond.instanceMethod yX12_isMan ∈ x_TT := x_TT_of (tq_8 (List.mem_of_getElem? (i := 64) rfl)) rfl
theorem wv_X12_isName : Cond.instanceMethod yX12_isName ∈ x_TT := x_TT_of (tq_7 (List.mem_of_getElem? (i := 162) rfl)) rfl
theorem wv_X12_isOn : Cond.instanceMethod yX12_isOn ∈ x_TT := x_TT_of (tq_8 (List.mem_of_getElem? (i := 81) rfl)) rfl
theorem wv_X12_isOwn : Cond.instanceMethod yX12_isOwn ∈ x_TT := x_TT_of (tq_7 (List.mem_of_getElem? (i := 166) rfl)) rfl
theorem wv_X12_isTold : Cond.instanceMethod yX12_isTold ∈ x_TT := x_TT_of (tq_9 (List.mem_of_getElem? (i := 17) rfl)) rfl
theorem wv_X12_isWord : Cond.instanceMethod yX12_isWord ∈ x_TT := x_TT_of (tq_7 (List.mem_of_getElem? (i := 150) rfl)) rfl
theorem wv_X12_keep : Cond.instanceMethod yX12_keep ∈ x_TT := x_TT_of (tq_8 (List.mem_of_getElem? (i := 139) rfl)) rfl
theorem wv_X12_keptOf : Cond.instanceMethod yX12_keptOf ∈ x_TT := x_TT_of (tq_8 (List.mem_of_getElem? (i := 168) rfl)) rfl
theorem wv_X12_later : Cond.instanceMethod yX12_later ∈ x_TT := x_TT_of (tq_9 (List.mem_of_getElem? (i := 52) rfl)) rfl
theorem wv_X12_layBest : Cond.instanceMethod yX12_layBest ∈ x_TT := x_TT_of (tq_8 (List.mem_of_getElem? (i := 144) rfl)) rfl
theorem wv_X12_layCanKeep : Cond.instanceMethod yX12_layCanKeep ∈ x_TT := x_TT_of (tq_8 (List.mem_of_getElem? (i := 195) rfl)) rfl
theorem wv_X12_layTwos : Cond.instanceMethod yX12_layTwos ∈ x_TT := x_TT_of (tq_9 (List.mem_of_getElem? (i := 13) rfl)) rfl
theorem wv_X12_leave : Cond.instanceMethod yX12_leave ∈ x_TT := x_TT_of (tq_8 (List.mem_of_getElem? (i := 198) rfl)) rfl
theorem wv_X12_leaving : Cond.instanceMethod yX12_leaving ∈ x_TT := x_TT_of (tq_8 (List.mem_of_getElem? (i := 203) rfl)) rfl
theorem wv_X12_lies : Cond.instanceMethod yX12_lies ∈ x_TT := x_TT_of (tq_9 (List.mem_of_getElem? (i := 40) rfl)) rfl
theorem wv_X12_likes : Cond.instanceMethod yX12_likes ∈ x_TT := x_TT_of (tq_9 (List.mem_of_getElem? (i := 36) rfl)) rfl
theorem wv_X12_load : Cond.instanceMethod yX12_load ∈ x_TT := x_TT_of (tq_8 (List.mem_of_getElem? (i := 113) rfl)) rfl
theorem wv_X12_many : Cond.instanceMethod yX12_many ∈ x_TT := x_TT_of (tq_8 (List.mem_of_getElem? (i := 84) rfl)) rfl
theorem wv_X12_markOf : Cond.instanceMethod yX12_markOf ∈ x_TT := x_TT_of (tq_9 (List.mem_of_getElem? (i := 66) rfl)) rfl
theorem wv_X12_mayNot : Cond.instanceMethod yX12_mayNot ∈ x_TT := x_TT_of (tq_8 (List.mem_of_getElem? (i := 2) rfl)) rfl
theorem wv_X12_mostLeft : Cond.instanceMethod yX12_mostLeft ∈ x_TT := x_TT_of (tq_9 (List.mem_of_getElem? (i := 75) rfl)) rfl
theorem wv_X12_newName : Cond.instanceMethod yX12_newName ∈ x_TT := x_TT_of (tq_7 (List.mem_of_getElem? (i := 158) rfl)) rfl
theorem wv_X12_nextOrder : Cond.instanceMethod yX12_nextOrder ∈ x_TT := x_TT_of (tq_8 (List.mem_of_getElem? (i := 152) rfl)) rfl
theorem wv_X12_odds : Cond.instanceMethod yX12_odds ∈ x_TT := x_TT_of (tq_8 (List.mem_of_getElem? (i := 218) rfl)) rfl
theorem wv_X12_oldName : Cond.instanceMethod yX12_oldName ∈ x_TT := x_TT_of (tq_7 (List.mem_of_getElem? (i := 226) rfl)) rfl
theorem wv_X12_openUp : Cond.instanceMethod yX12_openUp ∈ x_TT := x_TT_of (tq_8 (List.mem_of_getElem? (i := 9) rfl)) rfl
theorem wv_X12_option : Cond.instanceMethod yX12_option ∈ x_TT := x_TT_of (tq_7 (List.mem_of_getElem? (i := 199) rfl)) rfl
theorem wv_X12_putTwos : Cond.instanceMethod yX12_putTwos ∈ x_TT := x_TT_of (tq_9 (List.mem_of_getElem? (i := 25) rfl)) rfl
theorem wv_X12_readAll : Cond.instanceMethod yX12_readAll ∈ x_TT := x_TT_of (tq_7 (List.mem_of_getElem? (i := 124) rfl)) rfl
theorem wv_X12_readButton : Cond.instanceMethod yX12_readButton ∈ x_TT := x_TT_of (tq_7 (List.mem_of_getElem? (i := 222) rfl)) rfl
theorem wv_X12_readDeed : Cond.instanceMethod yX12_readDeed ∈ x_TT := x_TT_of (tq_7 (List.mem_of_getElem? (i := 218) rfl)) rfl
theorem wv_X12_readFriend : Cond.instanceMethod yX12_readFriend ∈ x_TT := x_TT_of (tq_7 (List.mem_of_getElem? (i := 230) rfl)) rfl
theorem wv_X12_readLine : Cond.instanceMethod yX12_readLine ∈ x_TT := x_TT_of (tq_7 (List.mem_of_getElem? (i := 145) rfl)) rfl
theorem wv_X12_readMan : Cond.instanceMethod yX12_readMan ∈ x_TT := x_TT_of (tq_7 (List.mem_of_getElem? (i := 154) rfl)) rfl
theorem wv_X12_readWear : Cond.instanceMethod yX12_readWear ∈ x_TT := x_TT_of (tq_7 (List.mem_of_getElem? (i := 234) rfl)) rfl
theorem wv_X12_redo : Cond.instanceMethod yX12_redo ∈ x_TT := x_TT_of (tq_8 (List.mem_of_getElem? (i := 135) rfl)) rfl
theorem wv_X12_regiment : Cond.instanceMethod yX12_regiment ∈ x_TT := x_TT_of (tq_7 (List.mem_of_getElem? (i := 119) rfl)) rfl
theorem wv_X12_rest : Cond.instanceMethod yX12_rest ∈ x_TT := x_TT_of (tq_8 (List.mem_of_getElem? (i := 182) rfl)) rfl
theorem wv_X12_rowsOf : Cond.instanceMethod yX12_rowsOf ∈ x_TT := x_TT_of (tq_9 (List.mem_of_getElem? (i := 9) rfl)) rfl
theorem wv_X12_sew : Cond.instanceMethod yX12_sew ∈ x_TT := x_TT_of (tq_8 (List.mem_of_getElem? (i := 104) rfl)) rfl
theorem wv_X12_sign : Cond.instanceMethod yX12_sign ∈ x_TT := x_TT_of (tq_8 (List.mem_of_getElem? (i := 29) rfl)) rfl
theorem wv_X12_swears : Cond.instanceMethod yX12_swears ∈ x_TT := x_TT_of (tq_9 (List.mem_of_getElem? (i := 62) rfl)) rfl
theorem wv_X12_swore : Cond.instanceMethod yX12_swore ∈ x_TT := x_TT_of (tq_9 (List.mem_of_getElem? (i := 57) rfl)) rfl
theorem wv_X12_sworn : Cond.instanceMethod yX12_sworn ∈ x_TT := x_TT_of (tq_8 (List.mem_of_getElem? (i := 72) rfl)) rfl
theorem wv_X12_threadBy : Cond.instanceMethod yX12_threadBy ∈ x_TT := x_TT_of (tq_8 (List.mem_of_getElem? (i := 225) rfl)) rfl
theorem wv_X12_threadSame : Cond.instanceMethod yX12_threadSame ∈ x_TT := x_TT_of (tq_8 (List.mem_of_getElem? (i := 215) rfl)) rfl
theorem wv_X12_ties : Cond.instanceMethod yX12_ties ∈ x_TT := x_TT_of (tq_8 (List.mem_of_getElem? (i := 186) rfl)) rfl
theorem wv_X12_token : Cond.instanceMethod yX12_token ∈ x_TT := x_TT_of (tq_7 (List.mem_of_getElem? (i := 128) rfl)) rfl
theorem wv_X12_told : Cond.instanceMethod yX12_told ∈ x_TT := x_TT_of (tq_7 (List.mem_of_getElem? (i := 203) rfl)) rfl
theorem wv_X12_toldNumber : Cond.instanceMethod yX12_toldNumber ∈ x_TT := x_TT_of (tq_7 (List.mem_of_getElem? (i := 211) rfl)) rfl
theorem wv_X12_truce : Cond.instanceMethod yX12_truce ∈ x_TT := x_TT_of (tq_9 (List.mem_of_getElem? (i := 4) rfl)) rfl
theorem wv_X12_tug : Cond.instanceMethod yX12_tug ∈ x_TT := x_TT_of (tq_9 (List.mem_of_getElem? (i := 44) rfl)) rfl
theorem wv_X12_undo : Cond.instanceMethod yX12_undo ∈ x_TT := x_TT_of (tq_8 (List.mem_of_getElem? (i := 127) rfl)) rfl
theorem wv_X12_undoes : Cond.instanceMethod yX12_undoes ∈ x_TT := x_TT_of (tq_8 (List.mem_of_getElem? (i := 96) rfl)) rfl
theorem wv_X12_unit : Cond.instanceMethod yX12_unit ∈ x_TT := x_TT_of (tq_7 (List.mem_of_getElem? (i := 238) rfl)) rfl
theorem wv_X12_untell : Cond.instanceMethod yX12_untell ∈ x_TT := x_TT_of (tq_9 (List.mem_of_getElem? (i := 48) rfl)) rfl
theorem wv_X12_want : Cond.instanceMethod yX12_want ∈ x_TT := x_TT_of (tq_7 (List.mem_of_getElem? (i := 207) rfl)) rfl
theorem wv_X12_wearOf : Cond.instanceMethod yX12_wearOf ∈ x_TT := x_TT_of (tq_8 (List.mem_of_getElem? (i := 121) rfl)) rfl
theorem wv_X12_will : Cond.instanceMethod yX12_will ∈ x_TT := x_TT_of (tq_9 (List.mem_of_getElem? (i := 0) rfl)) rfl
theorem wv_X12_wrong : Cond.instanceMethod yX12_wrong ∈ x_TT := x_TT_of (tq_7 (List.mem_of_getElem? (i := 191) rfl)) rfl
theorem wv_X1_inputSign : Cond.instanceMethod yX1_inputSign ∈ x_TT := x_TT_of (tq_4 (List.mem_of_getElem? (i := 68) rfl)) rfl
theorem wv_X1_isTermSign : Cond.instanceMethod yX1_isTermSign ∈ x_TT := x_TT_of (tq_4 (List.mem_of_getElem? (i := 72) rfl)) rfl
theorem wv_X1_readBoth : Cond.instanceMethod yX1_readBoth ∈ x_TT := x_TT_of (tq_4 (List.mem_of_getElem? (i := 27) rfl)) rfl
theorem wv_X1_readBracket : Cond.instanceMethod yX1_readBracket ∈ x_TT := x_TT_of (tq_4 (List.mem_of_getElem? (i := 59) rfl)) rfl
theorem wv_X1_readEither : Cond.instanceMethod yX1_readEither ∈ x_TT := x_TT_of (tq_4 (List.mem_of_getElem? (i := 23) rfl)) rfl
theorem wv_X1_readFormula : Cond.instanceMethod yX1_readFormula ∈ x_TT := x_TT_of (tq_4 (List.mem_of_getElem? (i := 18) rfl)) rfl
theorem wv_X1_readNot : Cond.instanceMethod yX1_readNot ∈ x_TT := x_TT_of (tq_4 (List.mem_of_getElem? (i := 36) rfl)) rfl
theorem wv_X1_readOne : Cond.instanceMethod yX1_readOne ∈ x_TT := x_TT_of (tq_4 (List.mem_of_getElem? (i := 31) rfl)) rfl
theorem wv_X1_readSum : Cond.instanceMethod yX1_readSum ∈ x_TT := x_TT_of (tq_4 (List.mem_of_getElem? (i := 46) rfl)) rfl
theorem wv_X1_readTerm : Cond.instanceMethod yX1_readTerm ∈ x_TT := x_TT_of (tq_4 (List.mem_of_getElem? (i := 50) rfl)) rfl
theorem wv_X1_readUnit : Cond.instanceMethod yX1_readUnit ∈ x_TT := x_TT_of (tq_4 (List.mem_of_getElem? (i := 54) rfl)) rfl
theorem wv_X2_addAct : Cond.instanceMethod yX2_addAct ∈ x_TT := x_TT_of (tq_4 (List.mem_of_getElem? (i := 168) rfl)) rfl
theorem wv_X2_emptyBoxes : Cond.instanceMethod yX2_emptyBoxes ∈ x_TT := x_TT_of (tq_4 (List.mem_of_getElem? (i := 100) rfl)) rfl
theorem wv_X2_fillBox : Cond.instanceMethod yX2_fillBox ∈ x_TT := x_TT_of (tq_6 (List.mem_of_getElem? (i := 31) rfl)) rfl
theorem wv_X2_forgetActs : Cond.instanceMethod yX2_forgetActs ∈ x_TT := x_TT_of (tq_2 (List.mem_of_getElem? (i := 201) rfl)) rfl
theorem wv_X2_openBox : Cond.instanceMethod yX2_openBox ∈ x_TT := x_TT_of (tq_6 (List.mem_of_getElem? (i := 39) rfl)) rfl
theorem wv_X2_readRow : Cond.instanceMethod yX2_readRow ∈ x_TT := x_TT_of (tq_5 (List.mem_of_getElem? (i := 29) rfl)) rfl
theorem wv_X2_stepBack : Cond.instanceMethod yX2_stepBack ∈ x_TT := x_TT_of (tq_5 (List.mem_of_getElem? (i := 24) rfl)) rfl
theorem wv_X2_stepOn : Cond.instanceMethod yX2_stepOn ∈ x_TT := x_TT_of (tq_5 (List.mem_of_getElem? (i := 36) rfl)) rfl
theorem wv_X2_writeRow : Cond.instanceMethod yX2_writeRow ∈ x_TT := x_TT_of (tq_2 (List.mem_of_getElem? (i := 206) rfl)) rfl
theorem wv_X3_findBest : Cond.instanceMethod yX3_findBest ∈ x_TT := x_TT_of (tq_5 (List.mem_of_getElem? (i := 49) rfl)) rfl
theorem wv_X3_firstBestDeed : Cond.instanceMethod yX3_firstBestDeed ∈ x_TT := x_TT_of (tq_5 (List.mem_of_getElem? (i := 73) rfl)) rfl
theorem wv_X3_followBest : Cond.instanceMethod yX3_followBest ∈ x_TT := x_TT_of (tq_5 (List.mem_of_getElem? (i := 68) rfl)) rfl
theorem wv_X3_keptBy : Cond.instanceMethod yX3_keptBy ∈ x_TT := x_TT_of (tq_5 (List.mem_of_getElem? (i := 58) rfl)) rfl
theorem wv_X3_lookAt : Cond.instanceMethod yX3_lookAt ∈ x_TT := x_TT_of (tq_5 (List.mem_of_getElem? (i := 44) rfl)) rfl
theorem wv_X3_markKeepable : Cond.instanceMethod yX3_markKeepable ∈ x_TT := x_TT_of (tq_5 (List.mem_of_getElem? (i := 108) rfl)) rfl
theorem wv_X3_markOrders : Cond.instanceMethod yX3_markOrders ∈ x_TT := x_TT_of (tq_5 (List.mem_of_getElem? (i := 112) rfl)) rfl
theorem wv_X3_mostKept : Cond.instanceMethod yX3_mostKept ∈ x_TT := x_TT_of (tq_5 (List.mem_of_getElem? (i := 89) rfl)) rfl
theorem wv_X3_smallestClash : Cond.instanceMethod yX3_smallestClash ∈ x_TT := x_TT_of (tq_5 (List.mem_of_getElem? (i := 103) rfl)) rfl
theorem wv_X3_wonBy : Cond.instanceMethod yX3_wonBy ∈ x_TT := x_TT_of (tq_5 (List.mem_of_getElem? (i := 54) rfl)) rfl
theorem wv_X4_find : Cond.instanceMethod yX4_find ∈ x_TT := x_TT_of (tq_3 (List.mem_of_getElem? (i := 188) rfl)) rfl
theorem wv_X4_isNewName : Cond.instanceMethod yX4_isNewName ∈ x_TT := x_TT_of (tq_3 (List.mem_of_getElem? (i := 184) rfl)) rfl
theorem wv_X4_number : Cond.instanceMethod yX4_number ∈ x_TT := x_TT_of (tq_3 (List.mem_of_getElem? (i := 200) rfl)) rfl
theorem wv_X4_oldName : Cond.instanceMethod yX4_oldName ∈ x_TT := x_TT_of (tq_3 (List.mem_of_getElem? (i := 222) rfl)) rfl
theorem wv_X4_opens : Cond.instanceMethod yX4_opens ∈ x_TT := x_TT_of (tq_3 (List.mem_of_getElem? (i := 171) rfl)) rfl
theorem wv_X4_opensOnce : Cond.instanceMethod yX4_opensOnce ∈ x_TT := x_TT_of (tq_4 (List.mem_of_getElem? (i := 15) rfl)) rfl
theorem wv_X4_optional : Cond.instanceMethod yX4_optional ∈ x_TT := x_TT_of (tq_3 (List.mem_of_getElem? (i := 192) rfl)) rfl
theorem wv_X4_readAfter : Cond.instanceMethod yX4_readAfter ∈ x_TT := x_TT_of (tq_3 (List.mem_of_getElem? (i := 230) rfl)) rfl
theorem wv_X4_readButton : Cond.instanceMethod yX4_readButton ∈ x_TT := x_TT_of (tq_3 (List.mem_of_getElem? (i := 214) rfl)) rfl
theorem wv_X4_readDeed : Cond.instanceMethod yX4_readDeed ∈ x_TT := x_TT_of (tq_3 (List.mem_of_getElem? (i := 204) rfl)) rfl
theorem wv_X4_readDraw : Cond.instanceMethod yX4_readDraw ∈ x_TT := x_TT_of (tq_4 (List.mem_of_getElem? (i := 84) rfl)) rfl
theorem wv_X4_readFriend : Cond.instanceMethod yX4_readFriend ∈ x_TT := x_TT_of (tq_3 (List.mem_of_getElem? (i := 234) rfl)) rfl
theorem wv_X4_readHoursOfDay : Cond.instanceMethod yX4_readHoursOfDay ∈ x_TT := x_TT_of (tq_4 (List.mem_of_getElem? (i := 76) rfl)) rfl
theorem wv_X4_readMan : Cond.instanceMethod yX4_readMan ∈ x_TT := x_TT_of (tq_3 (List.mem_of_getElem? (i := 167) rfl)) rfl
theorem wv_X4_readPromise : Cond.instanceMethod yX4_readPromise ∈ x_TT := x_TT_of (tq_3 (List.mem_of_getElem? (i := 226) rfl)) rfl
theorem wv_X4_readStorm : Cond.instanceMethod yX4_readStorm ∈ x_TT := x_TT_of (tq_4 (List.mem_of_getElem? (i := 80) rfl)) rfl
theorem wv_X4_readText : Cond.instanceMethod yX4_readText ∈ x_TT := x_TT_of (tq_3 (List.mem_of_getElem? (i := 31) rfl)) rfl
theorem wv_X4_readWhose : Cond.instanceMethod yX4_readWhose ∈ x_TT := x_TT_of (tq_3 (List.mem_of_getElem? (i := 218) rfl)) rfl
theorem wv_X4_readWorth : Cond.instanceMethod yX4_readWorth ∈ x_TT := x_TT_of (tq_4 (List.mem_of_getElem? (i := 2) rfl)) rfl
theorem wv_X5_befriend : Cond.instanceMethod yX5_befriend ∈ x_TT := x_TT_of (tq_4 (List.mem_of_getElem? (i := 10) rfl)) rfl
theorem wv_X5_empty : Cond.instanceMethod yX5_empty ∈ x_TT := x_TT_of (tq_1 (List.mem_of_getElem? (i := 60) rfl)) rfl
theorem wv_X5_hasButton : Cond.instanceMethod yX5_hasButton ∈ x_TT := x_TT_of (tq_4 (List.mem_of_getElem? (i := 116) rfl)) rfl
theorem wv_X5_hasDeed : Cond.instanceMethod yX5_hasDeed ∈ x_TT := x_TT_of (tq_4 (List.mem_of_getElem? (i := 148) rfl)) rfl
theorem wv_X5_hasMan : Cond.instanceMethod yX5_hasMan ∈ x_TT := x_TT_of (tq_4 (List.mem_of_getElem? (i := 132) rfl)) rfl
theorem wv_X5_takeOver : Cond.instanceMethod yX5_takeOver ∈ x_TT := x_TT_of (tq_4 (List.mem_of_getElem? (i := 88) rfl)) rfl
theorem wv_X5_traitOf : Cond.instanceMethod yX5_traitOf ∈ x_TT := x_TT_of (tq_6 (List.mem_of_getElem? (i := 14) rfl)) rfl
theorem wv_X5_worthOf : Cond.instanceMethod yX5_worthOf ∈ x_TT := x_TT_of (tq_3 (List.mem_of_getElem? (i := 237) rfl)) rfl
theorem wv_X6_daysTillLost : Cond.instanceMethod yX6_daysTillLost ∈ x_TT := x_TT_of (tq_5 (List.mem_of_getElem? (i := 161) rfl)) rfl
theorem wv_X6_oddsPart : Cond.instanceMethod yX6_oddsPart ∈ x_TT := x_TT_of (tq_5 (List.mem_of_getElem? (i := 144) rfl)) rfl
theorem wv_X6_stateBehind : Cond.instanceMethod yX6_stateBehind ∈ x_TT := x_TT_of (tq_5 (List.mem_of_getElem? (i := 169) rfl)) rfl
theorem wv_X6_threadBehind : Cond.instanceMethod yX6_threadBehind ∈ x_TT := x_TT_of (tq_5 (List.mem_of_getElem? (i := 133) rfl)) rfl
theorem wv_X6_waysOf : Cond.instanceMethod yX6_waysOf ∈ x_TT := x_TT_of (tq_5 (List.mem_of_getElem? (i := 150) rfl)) rfl
theorem wv_X7_advance : Cond.instanceMethod yX7_advance ∈ x_TT := x_TT_of (tq_3 (List.mem_of_getElem? (i := 43) rfl)) rfl
theorem wv_X7_isSign : Cond.instanceMethod yX7_isSign ∈ x_TT := x_TT_of (tq_4 (List.mem_of_getElem? (i := 5) rfl)) rfl
theorem wv_X7_isWord : Cond.instanceMethod yX7_isWord ∈ x_TT := x_TT_of (tq_3 (List.mem_of_getElem? (i := 195) rfl)) rfl
theorem wv_X7_open : Cond.instanceMethod yX7_open ∈ x_TT := x_TT_of (tq_3 (List.mem_of_getElem? (i := 36) rfl)) rfl
theorem wv_X7_refuse : Cond.instanceMethod yX7_refuse ∈ x_TT := x_TT_of (tq_3 (List.mem_of_getElem? (i := 174) rfl)) rfl
theorem wv_X7_refuseAt : Cond.instanceMethod yX7_refuseAt ∈ x_TT := x_TT_of (tq_3 (List.mem_of_getElem? (i := 178) rfl)) rfl
theorem wv_X7_takeDigits : Cond.instanceMethod yX7_takeDigits ∈ x_TT := x_TT_of (tq_3 (List.mem_of_getElem? (i := 105) rfl)) rfl
theorem wv_X7_takeLetters : Cond.instanceMethod yX7_takeLetters ∈ x_TT := x_TT_of (tq_3 (List.mem_of_getElem? (i := 48) rfl)) rfl
theorem wv_X7_takesSign : Cond.instanceMethod yX7_takesSign ∈ x_TT := x_TT_of (tq_4 (List.mem_of_getElem? (i := 62) rfl)) rfl
theorem wv_X7_takesWord : Cond.instanceMethod yX7_takesWord ∈ x_TT := x_TT_of (tq_3 (List.mem_of_getElem? (i := 207) rfl)) rfl
theorem wv_X8_copyWith : Cond.instanceMethod yX8_copyWith ∈ x_TT := x_TT_of (tq_5 (List.mem_of_getElem? (i := 201) rfl)) rfl
theorem wv_X8_has : Cond.instanceMethod yX8_has ∈ x_TT := x_TT_of (tq_5 (List.mem_of_getElem? (i := 195) rfl)) rfl
theorem wv_X8_isCalm : Cond.instanceMethod yX8_isCalm ∈ x_TT := x_TT_of (tq_5 (List.mem_of_getElem? (i := 205) rfl)) rfl
theorem wv_X8_pairFrom : Cond.instanceMethod yX8_pairFrom ∈ x_TT := x_TT_of (tq_5 (List.mem_of_getElem? (i := 187) rfl)) rfl
theorem wv_X8_tryAll : Cond.instanceMethod yX8_tryAll ∈ x_TT := x_TT_of (tq_5 (List.mem_of_getElem? (i := 182) rfl)) rfl
theorem wv_X8_weigh : Cond.instanceMethod yX8_weigh ∈ x_TT := x_TT_of (tq_5 (List.mem_of_getElem? (i := 191) rfl)) rfl
theorem wv_X9_fits : Cond.instanceMethod yX9_fits ∈ x_TT := x_TT_of (tq_6 (List.mem_of_getElem? (i := 11) rfl)) rfl
theorem wv_X9_forgetAll : Cond.instanceMethod yX9_forgetAll ∈ x_TT := x_TT_of (tq_4 (List.mem_of_getElem? (i := 104) rfl)) rfl
theorem wv_X9_leftAtMost : Cond.instanceMethod yX9_leftAtMost ∈ x_TT := x_TT_of (tq_6 (List.mem_of_getElem? (i := 22) rfl)) rfl
theorem wv_X9_suspects : Cond.instanceMethod yX9_suspects ∈ x_TT := x_TT_of (tq_6 (List.mem_of_getElem? (i := 6) rfl)) rfl
theorem wv_X9_takeBack : Cond.instanceMethod yX9_takeBack ∈ x_TT := x_TT_of (tq_5 (List.mem_of_getElem? (i := 233) rfl)) rfl
theorem wv_X9_tell : Cond.instanceMethod yX9_tell ∈ x_TT := x_TT_of (tq_5 (List.mem_of_getElem? (i := 225) rfl)) rfl
theorem mi_J6_bitCount_0f7a4 : x_MS mYJ6_bitCount_0f7a4 1 := ⟨⟨wc_J6_bitCount_0f7a4, wi_J6, by decide, nc_J6.1, nc_J6.2, pd_I_I⟩, wt_J6_bitCount_0f7a4⟩
theorem mi_X0_cutOff : x_MV mYX0_cutOff 1 := ⟨⟨wc_X0_cutOff, wi_X0, by decide, nc_X0.1, nc_X0.2, pd_I_V⟩, wv_X0_cutOff, we_X0_cutOff⟩
theorem mi_X0_cuts : x_MV mYX0_cuts 0 := ⟨⟨wc_X0_cuts, wi_X0, by decide, nc_X0.1, nc_X0.2, pd__I⟩, wv_X0_cuts, we_X0_cuts⟩
theorem mi_X0_doDeed : x_MV mYX0_doDeed 2 := ⟨⟨wc_X0_doDeed, wi_X0, by decide, nc_X0.1, nc_X0.2, pd_II_I⟩, wv_X0_doDeed, we_X0_doDeed⟩
theorem mi_X0_isOn : x_MV mYX0_isOn 1 := ⟨⟨wc_X0_isOn, wi_X0, by decide, nc_X0.1, nc_X0.2, pd_I_Z⟩, wv_X0_isOn, we_X0_isOn⟩
theorem mi_X0_isOnMan : x_MV mYX0_isOnMan 2 := ⟨⟨wc_X0_isOnMan, wi_X0, by decide, nc_X0.1, nc_X0.2, pd_II_Z⟩, wv_X0_isOnMan, we_X0_isOnMan⟩
theorem mi_X0_leaveBits : x_MV mYX0_leaveBits 2 := ⟨⟨wc_X0_leaveBits, wi_X0, by decide, nc_X0.1, nc_X0.2, pd_II_I⟩, wv_X0_leaveBits, we_X0_leaveBits⟩
theorem mi_X0_nextSeed : x_MS mYX0_nextSeed 1 := ⟨⟨wc_X0_nextSeed, wi_X0, by decide, nc_X0.1, nc_X0.2, pd_I_I⟩, wt_X0_nextSeed⟩
theorem mi_X0_passDay : x_MV mYX0_passDay 0 := ⟨⟨wc_X0_passDay, wi_X0, by decide, nc_X0.1, nc_X0.2, pd__I⟩, wv_X0_passDay, we_X0_passDay⟩
theorem mi_X0_seed : x_MV mYX0_seed 0 := ⟨⟨wc_X0_seed, wi_X0, by decide, nc_X0.1, nc_X0.2, pd__I⟩, wv_X0_seed, we_X0_seed⟩
theorem mi_X0_sewAllAsTold : x_MV mYX0_sewAllAsTold 0 := ⟨⟨wc_X0_sewAllAsTold, wi_X0, by decide, nc_X0.1, nc_X0.2, pd__V⟩, wv_X0_sewAllAsTold, we_X0_sewAllAsTold⟩
theorem mi_X0_sewAnew : x_MV mYX0_sewAnew 1 := ⟨⟨wc_X0_sewAnew, wi_X0, by decide, nc_X0.1, nc_X0.2, pd_I_V⟩, wv_X0_sewAnew, we_X0_sewAnew⟩
theorem mi_X0_stateAfterWear : x_MV mYX0_stateAfterWear 3 := ⟨⟨wc_X0_stateAfterWear, wi_X0, by decide, nc_X0.1, nc_X0.2, pd_III_I⟩, wv_X0_stateAfterWear, we_X0_stateAfterWear⟩
theorem mi_X0_stateOf : x_MV mYX0_stateOf 1 := ⟨⟨wc_X0_stateOf, wi_X0, by decide, nc_X0.1, nc_X0.2, pd_I_I⟩, wv_X0_stateOf, we_X0_stateOf⟩
theorem mi_X0_stormBy : x_MV mYX0_stormBy 1 := ⟨⟨wc_X0_stormBy, wi_X0, by decide, nc_X0.1, nc_X0.2, pd_I_I⟩, wv_X0_stormBy, we_X0_stormBy⟩
theorem mi_X0_threadOf : x_MV mYX0_threadOf 1 := ⟨⟨wc_X0_threadOf, wi_X0, by decide, nc_X0.1, nc_X0.2, pd_I_I⟩, wv_X0_threadOf, we_X0_threadOf⟩
theorem mi_X0_today : x_MV mYX0_today 0 := ⟨⟨wc_X0_today, wi_X0, by decide, nc_X0.1, nc_X0.2, pd__I⟩, wv_X0_today, we_X0_today⟩
theorem mi_X0_unbutton : x_MV mYX0_unbutton 1 := ⟨⟨wc_X0_unbutton, wi_X0, by decide, nc_X0.1, nc_X0.2, pd_I_V⟩, wv_X0_unbutton, we_X0_unbutton⟩
theorem mi_X0_waits : x_MV mYX0_waits 1 := ⟨⟨wc_X0_waits, wi_X0, by decide, nc_X0.1, nc_X0.2, pd_I_Z⟩, wv_X0_waits, we_X0_waits⟩
theorem mi_X0_worn : x_MV mYX0_worn 4 := ⟨⟨wc_X0_worn, wi_X0, by decide, nc_X0.1, nc_X0.2, pd_IIII_I⟩, wv_X0_worn, we_X0_worn⟩
theorem mi_X10_amount : x_MV mYX10_amount 4 := ⟨⟨wc_X10_amount, wi_X10, by decide, nc_X10.1, nc_X10.2, pd_IIII_I⟩, wv_X10_amount, we_X10_amount⟩
theorem mi_X10_empty : x_MV mYX10_empty 0 := ⟨⟨wc_X10_empty, wi_X10, by decide, nc_X10.1, nc_X10.2, pd__V⟩, wv_X10_empty, we_X10_empty⟩
theorem mi_X10_join : x_MS mYX10_join 3 := ⟨⟨wc_X10_join, wi_X10, by decide, nc_X10.1, nc_X10.2, pd_III_I⟩, wt_X10_join⟩
theorem mi_X10_push : x_MV mYX10_push 2 := ⟨⟨wc_X10_push, wi_X10, by decide, nc_X10.1, nc_X10.2, pd_II_I⟩, wv_X10_push, we_X10_push⟩
theorem mi_X10_put : x_MV mYX10_put 1 := ⟨⟨wc_X10_put, wi_X10, by decide, nc_X10.1, nc_X10.2, pd_I_V⟩, wv_X10_put, we_X10_put⟩
theorem mi_X10_takeOver : x_MV mYX10_takeOver 1 := ⟨⟨wc_X10_takeOver, wi_X10, by decide, nc_X10.1, nc_X10.2, pd_LOathButtonsWear_V⟩, wv_X10_takeOver, we_X10_takeOver⟩
theorem mi_X10_truth : x_MS mYX10_truth 1 := ⟨⟨wc_X10_truth, wi_X10, by decide, nc_X10.1, nc_X10.2, pd_Z_I⟩, wt_X10_truth⟩
theorem mi_X11_about : x_MV mYX11_about 1 := ⟨⟨wc_X11_about, wi_X11, by decide, nc_X11.1, nc_X11.2, pd_I_I⟩, wv_X11_about, we_X11_about⟩
theorem mi_X11_ask : x_MV mYX11_ask 2 := ⟨⟨wc_X11_ask, wi_X11, by decide, nc_X11.1, nc_X11.2, pd_II_I⟩, wv_X11_ask, we_X11_ask⟩
theorem mi_X11_asked : x_MV mYX11_asked 2 := ⟨⟨wc_X11_asked, wi_X11, by decide, nc_X11.1, nc_X11.2, pd_II_I⟩, wv_X11_asked, we_X11_asked⟩
theorem mi_X11_back : x_MV mYX11_back 1 := ⟨⟨wc_X11_back, wi_X11, by decide, nc_X11.1, nc_X11.2, pd_I_I⟩, wv_X11_back, we_X11_back⟩
theorem mi_X11_button : x_MV mYX11_button 2 := ⟨⟨wc_X11_button, wi_X11, by decide, nc_X11.1, nc_X11.2, pd_II_I⟩, wv_X11_button, we_X11_button⟩
theorem mi_X11_calm : x_MV mYX11_calm 0 := ⟨⟨wc_X11_calm, wi_X11, by decide, nc_X11.1, nc_X11.2, pd__I⟩, wv_X11_calm, we_X11_calm⟩
theorem mi_X11_clash : x_MV mYX11_clash 2 := ⟨⟨wc_X11_clash, wi_X11, by decide, nc_X11.1, nc_X11.2, pd_II_I⟩, wv_X11_clash, we_X11_clash⟩
theorem mi_X11_coat : x_MV mYX11_coat 2 := ⟨⟨wc_X11_coat, wi_X11, by decide, nc_X11.1, nc_X11.2, pd_II_I⟩, wv_X11_coat, we_X11_coat⟩
theorem mi_X11_cut : x_MV mYX11_cut 1 := ⟨⟨wc_X11_cut, wi_X11, by decide, nc_X11.1, nc_X11.2, pd_I_I⟩, wv_X11_cut, we_X11_cut⟩
theorem mi_X11_day : x_MV mYX11_day 0 := ⟨⟨wc_X11_day, wi_X11, by decide, nc_X11.1, nc_X11.2, pd__I⟩, wv_X11_day, we_X11_day⟩
theorem mi_X11_does : x_MV mYX11_does 2 := ⟨⟨wc_X11_does, wi_X11, by decide, nc_X11.1, nc_X11.2, pd_II_I⟩, wv_X11_does, we_X11_does⟩
theorem mi_X11_end : x_MV mYX11_end 1 := ⟨⟨wc_X11_end, wi_X11, by decide, nc_X11.1, nc_X11.2, pd_I_I⟩, wv_X11_end, we_X11_end⟩
theorem mi_X11_fault : x_MV mYX11_fault 1 := ⟨⟨wc_X11_fault, wi_X11, by decide, nc_X11.1, nc_X11.2, pd_I_I⟩, wv_X11_fault, we_X11_fault⟩
theorem mi_X11_feed : x_MV mYX11_feed 5 := ⟨⟨wc_X11_feed, wi_X11, by decide, nc_X11.1, nc_X11.2, pd_IIIII_I⟩, wv_X11_feed, we_X11_feed⟩
theorem mi_X11_first : x_MV mYX11_first 1 := ⟨⟨wc_X11_first, wi_X11, by decide, nc_X11.1, nc_X11.2, pd_I_I⟩, wv_X11_first, we_X11_first⟩
theorem mi_X11_free : x_MV mYX11_free 0 := ⟨⟨wc_X11_free, wi_X11, by decide, nc_X11.1, nc_X11.2, pd__I⟩, wv_X11_free, we_X11_free⟩
theorem mi_X11_holds : x_MV mYX11_holds 3 := ⟨⟨wc_X11_holds, wi_X11, by decide, nc_X11.1, nc_X11.2, pd_III_I⟩, wv_X11_holds, we_X11_holds⟩
theorem mi_X11_image : x_MV mYX11_image 1 := ⟨⟨wc_X11_image, wi_X11, by decide, nc_X11.1, nc_X11.2, pd_I_I⟩, wv_X11_image, we_X11_image⟩
theorem mi_X11_isButtonOn : x_MV mYX11_isButtonOn 1 := ⟨⟨wc_X11_isButtonOn, wi_X11, by decide, nc_X11.1, nc_X11.2, pd_I_Z⟩, wv_X11_isButtonOn, we_X11_isButtonOn⟩
theorem mi_X11_keep : x_MV mYX11_keep 2 := ⟨⟨wc_X11_keep, wi_X11, by decide, nc_X11.1, nc_X11.2, pd_II_I⟩, wv_X11_keep, we_X11_keep⟩
theorem mi_X11_later : x_MV mYX11_later 1 := ⟨⟨wc_X11_later, wi_X11, by decide, nc_X11.1, nc_X11.2, pd_I_I⟩, wv_X11_later, we_X11_later⟩
theorem mi_X11_layDown : x_MV mYX11_layDown 1 := ⟨⟨wc_X11_layDown, wi_X11, by decide, nc_X11.1, nc_X11.2, pd_I_V⟩, wv_X11_layDown, we_X11_layDown⟩
theorem mi_X11_layOut : x_MV mYX11_layOut 2 := ⟨⟨wc_X11_layOut, wi_X11, by decide, nc_X11.1, nc_X11.2, pd_aII_V⟩, wv_X11_layOut, we_X11_layOut⟩
theorem mi_X11_leave : x_MV mYX11_leave 2 := ⟨⟨wc_X11_leave, wi_X11, by decide, nc_X11.1, nc_X11.2, pd_II_I⟩, wv_X11_leave, we_X11_leave⟩
theorem mi_X11_lies : x_MV mYX11_lies 1 := ⟨⟨wc_X11_lies, wi_X11, by decide, nc_X11.1, nc_X11.2, pd_I_I⟩, wv_X11_lies, we_X11_lies⟩
theorem mi_X11_likes : x_MV mYX11_likes 2 := ⟨⟨wc_X11_likes, wi_X11, by decide, nc_X11.1, nc_X11.2, pd_II_I⟩, wv_X11_likes, we_X11_likes⟩
theorem mi_X11_many : x_MV mYX11_many 1 := ⟨⟨wc_X11_many, wi_X11, by decide, nc_X11.1, nc_X11.2, pd_I_I⟩, wv_X11_many, we_X11_many⟩
theorem mi_X11_odds : x_MV mYX11_odds 3 := ⟨⟨wc_X11_odds, wi_X11, by decide, nc_X11.1, nc_X11.2, pd_III_J⟩, wv_X11_odds, we_X11_odds⟩
theorem mi_X11_putOnTape : x_MV mYX11_putOnTape 1 := ⟨⟨wc_X11_putOnTape, wi_X11, by decide, nc_X11.1, nc_X11.2, pd_I_V⟩, wv_X11_putOnTape, we_X11_putOnTape⟩
theorem mi_X11_redo : x_MV mYX11_redo 0 := ⟨⟨wc_X11_redo, wi_X11, by decide, nc_X11.1, nc_X11.2, pd__Z⟩, wv_X11_redo, we_X11_redo⟩
theorem mi_X11_regiment : x_MV mYX11_regiment 0 := ⟨⟨wc_X11_regiment, wi_X11, by decide, nc_X11.1, nc_X11.2, pd__I⟩, wv_X11_regiment, we_X11_regiment⟩
theorem mi_X11_rest : x_MV mYX11_rest 1 := ⟨⟨wc_X11_rest, wi_X11, by decide, nc_X11.1, nc_X11.2, pd_I_I⟩, wv_X11_rest, we_X11_rest⟩
theorem mi_X11_sew : x_MV mYX11_sew 1 := ⟨⟨wc_X11_sew, wi_X11, by decide, nc_X11.1, nc_X11.2, pd_I_I⟩, wv_X11_sew, we_X11_sew⟩
theorem mi_X11_swore : x_MV mYX11_swore 1 := ⟨⟨wc_X11_swore, wi_X11, by decide, nc_X11.1, nc_X11.2, pd_I_I⟩, wv_X11_swore, we_X11_swore⟩
theorem mi_X11_sworn : x_MV mYX11_sworn 2 := ⟨⟨wc_X11_sworn, wi_X11, by decide, nc_X11.1, nc_X11.2, pd_II_I⟩, wv_X11_sworn, we_X11_sworn⟩
theorem mi_X11_ties : x_MV mYX11_ties 2 := ⟨⟨wc_X11_ties, wi_X11, by decide, nc_X11.1, nc_X11.2, pd_II_I⟩, wv_X11_ties, we_X11_ties⟩
theorem mi_X11_truce : x_MV mYX11_truce 0 := ⟨⟨wc_X11_truce, wi_X11, by decide, nc_X11.1, nc_X11.2, pd__I⟩, wv_X11_truce, we_X11_truce⟩
theorem mi_X11_tug : x_MV mYX11_tug 3 := ⟨⟨wc_X11_tug, wi_X11, by decide, nc_X11.1, nc_X11.2, pd_IIZ_I⟩, wv_X11_tug, we_X11_tug⟩
theorem mi_X11_undo : x_MV mYX11_undo 0 := ⟨⟨wc_X11_undo, wi_X11, by decide, nc_X11.1, nc_X11.2, pd__Z⟩, wv_X11_undo, we_X11_undo⟩
theorem mi_X11_undoes : x_MV mYX11_undoes 1 := ⟨⟨wc_X11_undoes, wi_X11, by decide, nc_X11.1, nc_X11.2, pd_I_Z⟩, wv_X11_undoes, we_X11_undoes⟩
theorem mi_X11_untell : x_MV mYX11_untell 1 := ⟨⟨wc_X11_untell, wi_X11, by decide, nc_X11.1, nc_X11.2, pd_I_Z⟩, wv_X11_untell, we_X11_untell⟩
theorem mi_X11_will : x_MV mYX11_will 2 := ⟨⟨wc_X11_will, wi_X11, by decide, nc_X11.1, nc_X11.2, pd_II_I⟩, wv_X11_will, we_X11_will⟩
theorem mi_X12_about : x_MV mYX12_about 1 := ⟨⟨wc_X12_about, wi_X12, by decide, nc_X12.1, nc_X12.2, pd_I_I⟩, wv_X12_about, we_X12_about⟩
theorem mi_X12_act : x_MV mYX12_act 0 := ⟨⟨wc_X12_act, wi_X12, by decide, nc_X12.1, nc_X12.2, pd__V⟩, wv_X12_act, we_X12_act⟩
theorem mi_X12_add : x_MV mYX12_add 2 := ⟨⟨wc_X12_add, wi_X12, by decide, nc_X12.1, nc_X12.2, pd_II_V⟩, wv_X12_add, we_X12_add⟩
theorem mi_X12_ask : x_MV mYX12_ask 2 := ⟨⟨wc_X12_ask, wi_X12, by decide, nc_X12.1, nc_X12.2, pd_II_I⟩, wv_X12_ask, we_X12_ask⟩
theorem mi_X12_asked : x_MV mYX12_asked 0 := ⟨⟨wc_X12_asked, wi_X12, by decide, nc_X12.1, nc_X12.2, pd__I⟩, wv_X12_asked, we_X12_asked⟩
theorem mi_X12_asked_ : x_MV mYX12_asked_ 2 := ⟨⟨wc_X12_asked_, wi_X12, by decide, nc_X12.1, nc_X12.2, pd_II_I⟩, wv_X12_asked_, we_X12_asked_⟩
theorem mi_X12_back : x_MV mYX12_back 1 := ⟨⟨wc_X12_back, wi_X12, by decide, nc_X12.1, nc_X12.2, pd_I_I⟩, wv_X12_back, we_X12_back⟩
theorem mi_X12_beginOrder : x_MV mYX12_beginOrder 0 := ⟨⟨wc_X12_beginOrder, wi_X12, by decide, nc_X12.1, nc_X12.2, pd__V⟩, wv_X12_beginOrder, we_X12_beginOrder⟩
theorem mi_X12_button : x_MV mYX12_button 2 := ⟨⟨wc_X12_button, wi_X12, by decide, nc_X12.1, nc_X12.2, pd_II_I⟩, wv_X12_button, we_X12_button⟩
theorem mi_X12_calm : x_MV mYX12_calm 0 := ⟨⟨wc_X12_calm, wi_X12, by decide, nc_X12.1, nc_X12.2, pd__I⟩, wv_X12_calm, we_X12_calm⟩
theorem mi_X12_canPut : x_MV mYX12_canPut 2 := ⟨⟨wc_X12_canPut, wi_X12, by decide, nc_X12.1, nc_X12.2, pd_II_Z⟩, wv_X12_canPut, we_X12_canPut⟩
theorem mi_X12_clash : x_MV mYX12_clash 2 := ⟨⟨wc_X12_clash, wi_X12, by decide, nc_X12.1, nc_X12.2, pd_II_I⟩, wv_X12_clash, we_X12_clash⟩
theorem mi_X12_close : x_MV mYX12_close 1 := ⟨⟨wc_X12_close, wi_X12, by decide, nc_X12.1, nc_X12.2, pd_I_V⟩, wv_X12_close, we_X12_close⟩
theorem mi_X12_coat : x_MV mYX12_coat 2 := ⟨⟨wc_X12_coat, wi_X12, by decide, nc_X12.1, nc_X12.2, pd_II_I⟩, wv_X12_coat, we_X12_coat⟩
theorem mi_X12_common : x_MS mYX12_common 2 := ⟨⟨wc_X12_common, wi_X12, by decide, nc_X12.1, nc_X12.2, pd_JJ_J⟩, wt_X12_common⟩
theorem mi_X12_countUnit : x_MV mYX12_countUnit 0 := ⟨⟨wc_X12_countUnit, wi_X12, by decide, nc_X12.1, nc_X12.2, pd__V⟩, wv_X12_countUnit, we_X12_countUnit⟩
theorem mi_X12_cut : x_MV mYX12_cut 1 := ⟨⟨wc_X12_cut, wi_X12, by decide, nc_X12.1, nc_X12.2, pd_I_I⟩, wv_X12_cut, we_X12_cut⟩
theorem mi_X12_day : x_MV mYX12_day 0 := ⟨⟨wc_X12_day, wi_X12, by decide, nc_X12.1, nc_X12.2, pd__I⟩, wv_X12_day, we_X12_day⟩
theorem mi_X12_daysOf : x_MV mYX12_daysOf 1 := ⟨⟨wc_X12_daysOf, wi_X12, by decide, nc_X12.1, nc_X12.2, pd_I_I⟩, wv_X12_daysOf, we_X12_daysOf⟩
theorem mi_X12_does : x_MV mYX12_does 2 := ⟨⟨wc_X12_does, wi_X12, by decide, nc_X12.1, nc_X12.2, pd_II_I⟩, wv_X12_does, we_X12_does⟩
theorem mi_X12_done : x_MS mYX12_done 3 := ⟨⟨wc_X12_done, wi_X12, by decide, nc_X12.1, nc_X12.2, pd_III_I⟩, wt_X12_done⟩
theorem mi_X12_doneOn : x_MV mYX12_doneOn 1 := ⟨⟨wc_X12_doneOn, wi_X12, by decide, nc_X12.1, nc_X12.2, pd_I_I⟩, wv_X12_doneOn, we_X12_doneOn⟩
theorem mi_X12_end : x_MV mYX12_end 1 := ⟨⟨wc_X12_end, wi_X12, by decide, nc_X12.1, nc_X12.2, pd_I_I⟩, wv_X12_end, we_X12_end⟩
theorem mi_X12_exchange : x_MV mYX12_exchange 1 := ⟨⟨wc_X12_exchange, wi_X12, by decide, nc_X12.1, nc_X12.2, pd_I_V⟩, wv_X12_exchange, we_X12_exchange⟩
theorem mi_X12_fault : x_MV mYX12_fault 1 := ⟨⟨wc_X12_fault, wi_X12, by decide, nc_X12.1, nc_X12.2, pd_I_I⟩, wv_X12_fault, we_X12_fault⟩
theorem mi_X12_feed : x_MV mYX12_feed 5 := ⟨⟨wc_X12_feed, wi_X12, by decide, nc_X12.1, nc_X12.2, pd_IIIII_I⟩, wv_X12_feed, we_X12_feed⟩
theorem mi_X12_find : x_MV mYX12_find 2 := ⟨⟨wc_X12_find, wi_X12, by decide, nc_X12.1, nc_X12.2, pd_II_I⟩, wv_X12_find, we_X12_find⟩
theorem mi_X12_first : x_MV mYX12_first 1 := ⟨⟨wc_X12_first, wi_X12, by decide, nc_X12.1, nc_X12.2, pd_I_I⟩, wv_X12_first, we_X12_first⟩
theorem mi_X12_four : x_MV mYX12_four 1 := ⟨⟨wc_X12_four, wi_X12, by decide, nc_X12.1, nc_X12.2, pd_I_V⟩, wv_X12_four, we_X12_four⟩
theorem mi_X12_free : x_MV mYX12_free 0 := ⟨⟨wc_X12_free, wi_X12, by decide, nc_X12.1, nc_X12.2, pd__I⟩, wv_X12_free, we_X12_free⟩
theorem mi_X12_goDay : x_MV mYX12_goDay 0 := ⟨⟨wc_X12_goDay, wi_X12, by decide, nc_X12.1, nc_X12.2, pd__I⟩, wv_X12_goDay, we_X12_goDay⟩
theorem mi_X12_has : x_MV mYX12_has 1 := ⟨⟨wc_X12_has, wi_X12, by decide, nc_X12.1, nc_X12.2, pd_I_I⟩, wv_X12_has, we_X12_has⟩
theorem mi_X12_hasBracket : x_MV mYX12_hasBracket 0 := ⟨⟨wc_X12_hasBracket, wi_X12, by decide, nc_X12.1, nc_X12.2, pd__Z⟩, wv_X12_hasBracket, we_X12_hasBracket⟩
theorem mi_X12_hasRelation : x_MV mYX12_hasRelation 0 := ⟨⟨wc_X12_hasRelation, wi_X12, by decide, nc_X12.1, nc_X12.2, pd__Z⟩, wv_X12_hasRelation, we_X12_hasRelation⟩
theorem mi_X12_here : x_MV mYX12_here 1 := ⟨⟨wc_X12_here, wi_X12, by decide, nc_X12.1, nc_X12.2, pd_I_I⟩, wv_X12_here, we_X12_here⟩
theorem mi_X12_holds : x_MV mYX12_holds 3 := ⟨⟨wc_X12_holds, wi_X12, by decide, nc_X12.1, nc_X12.2, pd_III_I⟩, wv_X12_holds, we_X12_holds⟩
theorem mi_X12_image : x_MV mYX12_image 1 := ⟨⟨wc_X12_image, wi_X12, by decide, nc_X12.1, nc_X12.2, pd_I_I⟩, wv_X12_image, we_X12_image⟩
theorem mi_X12_isAhead : x_MV mYX12_isAhead 0 := ⟨⟨wc_X12_isAhead, wi_X12, by decide, nc_X12.1, nc_X12.2, pd__Z⟩, wv_X12_isAhead, we_X12_isAhead⟩
theorem mi_X12_isBetter : x_MV mYX12_isBetter 0 := ⟨⟨wc_X12_isBetter, wi_X12, by decide, nc_X12.1, nc_X12.2, pd__Z⟩, wv_X12_isBetter, we_X12_isBetter⟩
theorem mi_X12_isBox : x_MS mYX12_isBox 1 := ⟨⟨wc_X12_isBox, wi_X12, by decide, nc_X12.1, nc_X12.2, pd_I_Z⟩, wt_X12_isBox⟩
theorem mi_X12_isButton : x_MV mYX12_isButton 1 := ⟨⟨wc_X12_isButton, wi_X12, by decide, nc_X12.1, nc_X12.2, pd_I_Z⟩, wv_X12_isButton, we_X12_isButton⟩
theorem mi_X12_isCalm : x_MV mYX12_isCalm 0 := ⟨⟨wc_X12_isCalm, wi_X12, by decide, nc_X12.1, nc_X12.2, pd__Z⟩, wv_X12_isCalm, we_X12_isCalm⟩
theorem mi_X12_isDeed : x_MV mYX12_isDeed 1 := ⟨⟨wc_X12_isDeed, wi_X12, by decide, nc_X12.1, nc_X12.2, pd_I_Z⟩, wv_X12_isDeed, we_X12_isDeed⟩
theorem mi_X12_isDigit : x_MS mYX12_isDigit 1 := ⟨⟨wc_X12_isDigit, wi_X12, by decide, nc_X12.1, nc_X12.2, pd_I_Z⟩, wt_X12_isDigit⟩
theorem mi_X12_isForbidden : x_MV mYX12_isForbidden 3 := ⟨⟨wc_X12_isForbidden, wi_X12, by decide, nc_X12.1, nc_X12.2, pd_III_Z⟩, wv_X12_isForbidden, we_X12_isForbidden⟩
theorem mi_X12_isFull : x_MV mYX12_isFull 0 := ⟨⟨wc_X12_isFull, wi_X12, by decide, nc_X12.1, nc_X12.2, pd__Z⟩, wv_X12_isFull, we_X12_isFull⟩
theorem mi_X12_isIn : x_MS mYX12_isIn 3 := ⟨⟨wc_X12_isIn, wi_X12, by decide, nc_X12.1, nc_X12.2, pd_III_Z⟩, wt_X12_isIn⟩
theorem mi_X12_isLetter : x_MS mYX12_isLetter 1 := ⟨⟨wc_X12_isLetter, wi_X12, by decide, nc_X12.1, nc_X12.2, pd_I_Z⟩, wt_X12_isLetter⟩
theorem mi_X12_isMan : x_MV mYX12_isMan 1 := ⟨⟨wc_X12_isMan, wi_X12, by decide, nc_X12.1, nc_X12.2, pd_I_Z⟩, wv_X12_isMan, we_X12_isMan⟩
theorem mi_X12_isName : x_MV mYX12_isName 0 := ⟨⟨wc_X12_isName, wi_X12, by decide, nc_X12.1, nc_X12.2, pd__Z⟩, wv_X12_isName, we_X12_isName⟩
theorem mi_X12_isOn : x_MV mYX12_isOn 1 := ⟨⟨wc_X12_isOn, wi_X12, by decide, nc_X12.1, nc_X12.2, pd_I_Z⟩, wv_X12_isOn, we_X12_isOn⟩
theorem mi_X12_isOwn : x_MV mYX12_isOwn 0 := ⟨⟨wc_X12_isOwn, wi_X12, by decide, nc_X12.1, nc_X12.2, pd__Z⟩, wv_X12_isOwn, we_X12_isOwn⟩
theorem mi_X12_isSign : x_MS mYX12_isSign 1 := ⟨⟨wc_X12_isSign, wi_X12, by decide, nc_X12.1, nc_X12.2, pd_I_Z⟩, wt_X12_isSign⟩
theorem mi_X12_isTold : x_MV mYX12_isTold 2 := ⟨⟨wc_X12_isTold, wi_X12, by decide, nc_X12.1, nc_X12.2, pd_II_Z⟩, wv_X12_isTold, we_X12_isTold⟩
theorem mi_X12_isWord : x_MV mYX12_isWord 1 := ⟨⟨wc_X12_isWord, wi_X12, by decide, nc_X12.1, nc_X12.2, pd_J_Z⟩, wv_X12_isWord, we_X12_isWord⟩
theorem mi_X12_keep : x_MV mYX12_keep 2 := ⟨⟨wc_X12_keep, wi_X12, by decide, nc_X12.1, nc_X12.2, pd_II_I⟩, wv_X12_keep, we_X12_keep⟩
theorem mi_X12_keptOf : x_MV mYX12_keptOf 3 := ⟨⟨wc_X12_keptOf, wi_X12, by decide, nc_X12.1, nc_X12.2, pd_III_I⟩, wv_X12_keptOf, we_X12_keptOf⟩
theorem mi_X12_later : x_MV mYX12_later 1 := ⟨⟨wc_X12_later, wi_X12, by decide, nc_X12.1, nc_X12.2, pd_I_I⟩, wv_X12_later, we_X12_later⟩
theorem mi_X12_layBest : x_MV mYX12_layBest 2 := ⟨⟨wc_X12_layBest, wi_X12, by decide, nc_X12.1, nc_X12.2, pd_II_V⟩, wv_X12_layBest, we_X12_layBest⟩
theorem mi_X12_layCanKeep : x_MV mYX12_layCanKeep 1 := ⟨⟨wc_X12_layCanKeep, wi_X12, by decide, nc_X12.1, nc_X12.2, pd_I_V⟩, wv_X12_layCanKeep, we_X12_layCanKeep⟩
theorem mi_X12_layTwos : x_MV mYX12_layTwos 1 := ⟨⟨wc_X12_layTwos, wi_X12, by decide, nc_X12.1, nc_X12.2, pd_I_Z⟩, wv_X12_layTwos, we_X12_layTwos⟩
theorem mi_X12_leave : x_MV mYX12_leave 2 := ⟨⟨wc_X12_leave, wi_X12, by decide, nc_X12.1, nc_X12.2, pd_II_I⟩, wv_X12_leave, we_X12_leave⟩
theorem mi_X12_leaving : x_MV mYX12_leaving 2 := ⟨⟨wc_X12_leaving, wi_X12, by decide, nc_X12.1, nc_X12.2, pd_II_I⟩, wv_X12_leaving, we_X12_leaving⟩
theorem mi_X12_lies : x_MV mYX12_lies 1 := ⟨⟨wc_X12_lies, wi_X12, by decide, nc_X12.1, nc_X12.2, pd_I_I⟩, wv_X12_lies, we_X12_lies⟩
theorem mi_X12_likes : x_MV mYX12_likes 2 := ⟨⟨wc_X12_likes, wi_X12, by decide, nc_X12.1, nc_X12.2, pd_II_I⟩, wv_X12_likes, we_X12_likes⟩
theorem mi_X12_load : x_MV mYX12_load 0 := ⟨⟨wc_X12_load, wi_X12, by decide, nc_X12.1, nc_X12.2, pd__V⟩, wv_X12_load, we_X12_load⟩
theorem mi_X12_many : x_MV mYX12_many 1 := ⟨⟨wc_X12_many, wi_X12, by decide, nc_X12.1, nc_X12.2, pd_I_I⟩, wv_X12_many, we_X12_many⟩
theorem mi_X12_markOf : x_MV mYX12_markOf 2 := ⟨⟨wc_X12_markOf, wi_X12, by decide, nc_X12.1, nc_X12.2, pd_II_I⟩, wv_X12_markOf, we_X12_markOf⟩
theorem mi_X12_mayNot : x_MV mYX12_mayNot 0 := ⟨⟨wc_X12_mayNot, wi_X12, by decide, nc_X12.1, nc_X12.2, pd__Z⟩, wv_X12_mayNot, we_X12_mayNot⟩
theorem mi_X12_members : x_MS mYX12_members 1 := ⟨⟨wc_X12_members, wi_X12, by decide, nc_X12.1, nc_X12.2, pd_I_I⟩, wt_X12_members⟩
theorem mi_X12_mostLeft : x_MV mYX12_mostLeft 2 := ⟨⟨wc_X12_mostLeft, wi_X12, by decide, nc_X12.1, nc_X12.2, pd_II_I⟩, wv_X12_mostLeft, we_X12_mostLeft⟩
theorem mi_X12_newName : x_MV mYX12_newName 2 := ⟨⟨wc_X12_newName, wi_X12, by decide, nc_X12.1, nc_X12.2, pd_II_V⟩, wv_X12_newName, we_X12_newName⟩
theorem mi_X12_nextOrder : x_MV mYX12_nextOrder 1 := ⟨⟨wc_X12_nextOrder, wi_X12, by decide, nc_X12.1, nc_X12.2, pd_I_Z⟩, wv_X12_nextOrder, we_X12_nextOrder⟩
theorem mi_X12_odds : x_MV mYX12_odds 3 := ⟨⟨wc_X12_odds, wi_X12, by decide, nc_X12.1, nc_X12.2, pd_III_J⟩, wv_X12_odds, we_X12_odds⟩
theorem mi_X12_oldName : x_MV mYX12_oldName 2 := ⟨⟨wc_X12_oldName, wi_X12, by decide, nc_X12.1, nc_X12.2, pd_II_I⟩, wv_X12_oldName, we_X12_oldName⟩
theorem mi_X12_openUp : x_MV mYX12_openUp 1 := ⟨⟨wc_X12_openUp, wi_X12, by decide, nc_X12.1, nc_X12.2, pd_I_V⟩, wv_X12_openUp, we_X12_openUp⟩
theorem mi_X12_option : x_MV mYX12_option 4 := ⟨⟨wc_X12_option, wi_X12, by decide, nc_X12.1, nc_X12.2, pd_JIII_I⟩, wv_X12_option, we_X12_option⟩
theorem mi_X12_putTwos : x_MV mYX12_putTwos 0 := ⟨⟨wc_X12_putTwos, wi_X12, by decide, nc_X12.1, nc_X12.2, pd__V⟩, wv_X12_putTwos, we_X12_putTwos⟩
theorem mi_X12_readAll : x_MV mYX12_readAll 0 := ⟨⟨wc_X12_readAll, wi_X12, by decide, nc_X12.1, nc_X12.2, pd__V⟩, wv_X12_readAll, we_X12_readAll⟩
theorem mi_X12_readButton : x_MV mYX12_readButton 0 := ⟨⟨wc_X12_readButton, wi_X12, by decide, nc_X12.1, nc_X12.2, pd__V⟩, wv_X12_readButton, we_X12_readButton⟩
theorem mi_X12_readDeed : x_MV mYX12_readDeed 0 := ⟨⟨wc_X12_readDeed, wi_X12, by decide, nc_X12.1, nc_X12.2, pd__V⟩, wv_X12_readDeed, we_X12_readDeed⟩
theorem mi_X12_readFriend : x_MV mYX12_readFriend 0 := ⟨⟨wc_X12_readFriend, wi_X12, by decide, nc_X12.1, nc_X12.2, pd__V⟩, wv_X12_readFriend, we_X12_readFriend⟩
theorem mi_X12_readLine : x_MV mYX12_readLine 0 := ⟨⟨wc_X12_readLine, wi_X12, by decide, nc_X12.1, nc_X12.2, pd__V⟩, wv_X12_readLine, we_X12_readLine⟩
theorem mi_X12_readMan : x_MV mYX12_readMan 0 := ⟨⟨wc_X12_readMan, wi_X12, by decide, nc_X12.1, nc_X12.2, pd__V⟩, wv_X12_readMan, we_X12_readMan⟩
theorem mi_X12_readWear : x_MV mYX12_readWear 0 := ⟨⟨wc_X12_readWear, wi_X12, by decide, nc_X12.1, nc_X12.2, pd__V⟩, wv_X12_readWear, we_X12_readWear⟩
theorem mi_X12_redo : x_MV mYX12_redo 0 := ⟨⟨wc_X12_redo, wi_X12, by decide, nc_X12.1, nc_X12.2, pd__Z⟩, wv_X12_redo, we_X12_redo⟩
theorem mi_X12_regiment : x_MV mYX12_regiment 0 := ⟨⟨wc_X12_regiment, wi_X12, by decide, nc_X12.1, nc_X12.2, pd__I⟩, wv_X12_regiment, we_X12_regiment⟩
theorem mi_X12_rest : x_MV mYX12_rest 1 := ⟨⟨wc_X12_rest, wi_X12, by decide, nc_X12.1, nc_X12.2, pd_I_I⟩, wv_X12_rest, we_X12_rest⟩
theorem mi_X12_rowsOf : x_MV mYX12_rowsOf 0 := ⟨⟨wc_X12_rowsOf, wi_X12, by decide, nc_X12.1, nc_X12.2, pd__I⟩, wv_X12_rowsOf, we_X12_rowsOf⟩
theorem mi_X12_sew : x_MV mYX12_sew 1 := ⟨⟨wc_X12_sew, wi_X12, by decide, nc_X12.1, nc_X12.2, pd_I_I⟩, wv_X12_sew, we_X12_sew⟩
theorem mi_X12_sign : x_MV mYX12_sign 0 := ⟨⟨wc_X12_sign, wi_X12, by decide, nc_X12.1, nc_X12.2, pd__I⟩, wv_X12_sign, we_X12_sign⟩
theorem mi_X12_swears : x_MV mYX12_swears 2 := ⟨⟨wc_X12_swears, wi_X12, by decide, nc_X12.1, nc_X12.2, pd_II_Z⟩, wv_X12_swears, we_X12_swears⟩
theorem mi_X12_swore : x_MV mYX12_swore 1 := ⟨⟨wc_X12_swore, wi_X12, by decide, nc_X12.1, nc_X12.2, pd_I_I⟩, wv_X12_swore, we_X12_swore⟩
theorem mi_X12_sworn : x_MV mYX12_sworn 2 := ⟨⟨wc_X12_sworn, wi_X12, by decide, nc_X12.1, nc_X12.2, pd_II_I⟩, wv_X12_sworn, we_X12_sworn⟩
theorem mi_X12_threadBy : x_MV mYX12_threadBy 3 := ⟨⟨wc_X12_threadBy, wi_X12, by decide, nc_X12.1, nc_X12.2, pd_III_I⟩, wv_X12_threadBy, we_X12_threadBy⟩
theorem mi_X12_threadSame : x_MV mYX12_threadSame 3 := ⟨⟨wc_X12_threadSame, wi_X12, by decide, nc_X12.1, nc_X12.2, pd_III_I⟩, wv_X12_threadSame, we_X12_threadSame⟩
theorem mi_X12_ties : x_MV mYX12_ties 2 := ⟨⟨wc_X12_ties, wi_X12, by decide, nc_X12.1, nc_X12.2, pd_II_I⟩, wv_X12_ties, we_X12_ties⟩
theorem mi_X12_tight : x_MS mYX12_tight 1 := ⟨⟨wc_X12_tight, wi_X12, by decide, nc_X12.1, nc_X12.2, pd_I_I⟩, wt_X12_tight⟩
theorem mi_X12_token : x_MV mYX12_token 0 := ⟨⟨wc_X12_token, wi_X12, by decide, nc_X12.1, nc_X12.2, pd__V⟩, wv_X12_token, we_X12_token⟩
theorem mi_X12_told : x_MV mYX12_told 3 := ⟨⟨wc_X12_told, wi_X12, by decide, nc_X12.1, nc_X12.2, pd_JII_I⟩, wv_X12_told, we_X12_told⟩
theorem mi_X12_toldNumber : x_MV mYX12_toldNumber 2 := ⟨⟨wc_X12_toldNumber, wi_X12, by decide, nc_X12.1, nc_X12.2, pd_II_I⟩, wv_X12_toldNumber, we_X12_toldNumber⟩
theorem mi_X12_truce : x_MV mYX12_truce 0 := ⟨⟨wc_X12_truce, wi_X12, by decide, nc_X12.1, nc_X12.2, pd__I⟩, wv_X12_truce, we_X12_truce⟩
theorem mi_X12_truth : x_MS mYX12_truth 1 := ⟨⟨wc_X12_truth, wi_X12, by decide, nc_X12.1, nc_X12.2, pd_Z_I⟩, wt_X12_truth⟩
theorem mi_X12_tug : x_MV mYX12_tug 3 := ⟨⟨wc_X12_tug, wi_X12, by decide, nc_X12.1, nc_X12.2, pd_IIZ_I⟩, wv_X12_tug, we_X12_tug⟩
theorem mi_X12_undo : x_MV mYX12_undo 0 := ⟨⟨wc_X12_undo, wi_X12, by decide, nc_X12.1, nc_X12.2, pd__Z⟩, wv_X12_undo, we_X12_undo⟩
theorem mi_X12_undoes : x_MV mYX12_undoes 1 := ⟨⟨wc_X12_undoes, wi_X12, by decide, nc_X12.1, nc_X12.2, pd_I_Z⟩, wv_X12_undoes, we_X12_undoes⟩
theorem mi_X12_unit : x_MV mYX12_unit 0 := ⟨⟨wc_X12_unit, wi_X12, by decide, nc_X12.1, nc_X12.2, pd__V⟩, wv_X12_unit, we_X12_unit⟩
theorem mi_X12_untell : x_MV mYX12_untell 1 := ⟨⟨wc_X12_untell, wi_X12, by decide, nc_X12.1, nc_X12.2, pd_I_Z⟩, wv_X12_untell, we_X12_untell⟩
theorem mi_X12_want : x_MV mYX12_want 1 := ⟨⟨wc_X12_want, wi_X12, by decide, nc_X12.1, nc_X12.2, pd_J_V⟩, wv_X12_want, we_X12_want⟩
theorem mi_X12_wearOf : x_MV mYX12_wearOf 4 := ⟨⟨wc_X12_wearOf, wi_X12, by decide, nc_X12.1, nc_X12.2, pd_IIII_I⟩, wv_X12_wearOf, we_X12_wearOf⟩
theorem mi_X12_will : x_MV mYX12_will 2 := ⟨⟨wc_X12_will, wi_X12, by decide, nc_X12.1, nc_X12.2, pd_II_I⟩, wv_X12_will, we_X12_will⟩
theorem mi_X12_wrong : x_MV mYX12_wrong 1 := ⟨⟨wc_X12_wrong, wi_X12, by decide, nc_X12.1, nc_X12.2, pd_I_V⟩, wv_X12_wrong, we_X12_wrong⟩
theorem mi_X1_inputSign : x_MV mYX1_inputSign 0 := ⟨⟨wc_X1_inputSign, wi_X1, by decide, nc_X1.1, nc_X1.2, pd__I⟩, wv_X1_inputSign, we_X1_inputSign⟩
theorem mi_X1_isTermSign : x_MV mYX1_isTermSign 0 := ⟨⟨wc_X1_isTermSign, wi_X1, by decide, nc_X1.1, nc_X1.2, pd__Z⟩, wv_X1_isTermSign, we_X1_isTermSign⟩
theorem mi_X1_readBoth : x_MV mYX1_readBoth 1 := ⟨⟨wc_X1_readBoth, wi_X1, by decide, nc_X1.1, nc_X1.2, pd_I_Z⟩, wv_X1_readBoth, we_X1_readBoth⟩
theorem mi_X1_readBracket : x_MV mYX1_readBracket 1 := ⟨⟨wc_X1_readBracket, wi_X1, by decide, nc_X1.1, nc_X1.2, pd_I_Z⟩, wv_X1_readBracket, we_X1_readBracket⟩
theorem mi_X1_readEither : x_MV mYX1_readEither 1 := ⟨⟨wc_X1_readEither, wi_X1, by decide, nc_X1.1, nc_X1.2, pd_I_Z⟩, wv_X1_readEither, we_X1_readEither⟩
theorem mi_X1_readFormula : x_MV mYX1_readFormula 0 := ⟨⟨wc_X1_readFormula, wi_X1, by decide, nc_X1.1, nc_X1.2, pd__Z⟩, wv_X1_readFormula, we_X1_readFormula⟩
theorem mi_X1_readNot : x_MV mYX1_readNot 1 := ⟨⟨wc_X1_readNot, wi_X1, by decide, nc_X1.1, nc_X1.2, pd_I_Z⟩, wv_X1_readNot, we_X1_readNot⟩
theorem mi_X1_readOne : x_MV mYX1_readOne 1 := ⟨⟨wc_X1_readOne, wi_X1, by decide, nc_X1.1, nc_X1.2, pd_I_Z⟩, wv_X1_readOne, we_X1_readOne⟩
theorem mi_X1_readSum : x_MV mYX1_readSum 1 := ⟨⟨wc_X1_readSum, wi_X1, by decide, nc_X1.1, nc_X1.2, pd_I_Z⟩, wv_X1_readSum, we_X1_readSum⟩
theorem mi_X1_readTerm : x_MV mYX1_readTerm 1 := ⟨⟨wc_X1_readTerm, wi_X1, by decide, nc_X1.1, nc_X1.2, pd_I_Z⟩, wv_X1_readTerm, we_X1_readTerm⟩
theorem mi_X1_readUnit : x_MV mYX1_readUnit 1 := ⟨⟨wc_X1_readUnit, wi_X1, by decide, nc_X1.1, nc_X1.2, pd_I_Z⟩, wv_X1_readUnit, we_X1_readUnit⟩
theorem mi_X2_addAct : x_MV mYX2_addAct 0 := ⟨⟨wc_X2_addAct, wi_X2, by decide, nc_X2.1, nc_X2.2, pd__V⟩, wv_X2_addAct, we_X2_addAct⟩
theorem mi_X2_emptyBoxes : x_MV mYX2_emptyBoxes 0 := ⟨⟨wc_X2_emptyBoxes, wi_X2, by decide, nc_X2.1, nc_X2.2, pd__V⟩, wv_X2_emptyBoxes, we_X2_emptyBoxes⟩
theorem mi_X2_fillBox : x_MV mYX2_fillBox 1 := ⟨⟨wc_X2_fillBox, wi_X2, by decide, nc_X2.1, nc_X2.2, pd_I_V⟩, wv_X2_fillBox, we_X2_fillBox⟩
theorem mi_X2_forgetActs : x_MV mYX2_forgetActs 0 := ⟨⟨wc_X2_forgetActs, wi_X2, by decide, nc_X2.1, nc_X2.2, pd__V⟩, wv_X2_forgetActs, we_X2_forgetActs⟩
theorem mi_X2_openBox : x_MV mYX2_openBox 1 := ⟨⟨wc_X2_openBox, wi_X2, by decide, nc_X2.1, nc_X2.2, pd_I_Z⟩, wv_X2_openBox, we_X2_openBox⟩
theorem mi_X2_readRow : x_MV mYX2_readRow 0 := ⟨⟨wc_X2_readRow, wi_X2, by decide, nc_X2.1, nc_X2.2, pd__V⟩, wv_X2_readRow, we_X2_readRow⟩
theorem mi_X2_stepBack : x_MV mYX2_stepBack 0 := ⟨⟨wc_X2_stepBack, wi_X2, by decide, nc_X2.1, nc_X2.2, pd__Z⟩, wv_X2_stepBack, we_X2_stepBack⟩
theorem mi_X2_stepOn : x_MV mYX2_stepOn 0 := ⟨⟨wc_X2_stepOn, wi_X2, by decide, nc_X2.1, nc_X2.2, pd__Z⟩, wv_X2_stepOn, we_X2_stepOn⟩
theorem mi_X2_writeRow : x_MV mYX2_writeRow 0 := ⟨⟨wc_X2_writeRow, wi_X2, by decide, nc_X2.1, nc_X2.2, pd__V⟩, wv_X2_writeRow, we_X2_writeRow⟩
theorem mi_X3_findBest : x_MV mYX3_findBest 1 := ⟨⟨wc_X3_findBest, wi_X3, by decide, nc_X3.1, nc_X3.2, pd_I_V⟩, wv_X3_findBest, we_X3_findBest⟩
theorem mi_X3_firstBestDeed : x_MV mYX3_firstBestDeed 1 := ⟨⟨wc_X3_firstBestDeed, wi_X3, by decide, nc_X3.1, nc_X3.2, pd_I_I⟩, wv_X3_firstBestDeed, we_X3_firstBestDeed⟩
theorem mi_X3_followBest : x_MV mYX3_followBest 0 := ⟨⟨wc_X3_followBest, wi_X3, by decide, nc_X3.1, nc_X3.2, pd__V⟩, wv_X3_followBest, we_X3_followBest⟩
theorem mi_X3_keptBy : x_MV mYX3_keptBy 2 := ⟨⟨wc_X3_keptBy, wi_X3, by decide, nc_X3.1, nc_X3.2, pd_II_I⟩, wv_X3_keptBy, we_X3_keptBy⟩
theorem mi_X3_lookAt : x_MV mYX3_lookAt 1 := ⟨⟨wc_X3_lookAt, wi_X3, by decide, nc_X3.1, nc_X3.2, pd_I_V⟩, wv_X3_lookAt, we_X3_lookAt⟩
theorem mi_X3_markKeepable : x_MV mYX3_markKeepable 0 := ⟨⟨wc_X3_markKeepable, wi_X3, by decide, nc_X3.1, nc_X3.2, pd__V⟩, wv_X3_markKeepable, we_X3_markKeepable⟩
theorem mi_X3_markOrders : x_MV mYX3_markOrders 3 := ⟨⟨wc_X3_markOrders, wi_X3, by decide, nc_X3.1, nc_X3.2, pd_III_V⟩, wv_X3_markOrders, we_X3_markOrders⟩
theorem mi_X3_mostKept : x_MV mYX3_mostKept 1 := ⟨⟨wc_X3_mostKept, wi_X3, by decide, nc_X3.1, nc_X3.2, pd_I_I⟩, wv_X3_mostKept, we_X3_mostKept⟩
theorem mi_X3_smallestClash : x_MV mYX3_smallestClash 1 := ⟨⟨wc_X3_smallestClash, wi_X3, by decide, nc_X3.1, nc_X3.2, pd_I_I⟩, wv_X3_smallestClash, we_X3_smallestClash⟩
theorem mi_X3_wonBy : x_MV mYX3_wonBy 2 := ⟨⟨wc_X3_wonBy, wi_X3, by decide, nc_X3.1, nc_X3.2, pd_II_I⟩, wv_X3_wonBy, we_X3_wonBy⟩
theorem mi_X4_find : x_MV mYX4_find 2 := ⟨⟨wc_X4_find, wi_X4, by decide, nc_X4.1, nc_X4.2, pd_aJI_I⟩, wv_X4_find, we_X4_find⟩
theorem mi_X4_isNewName : x_MV mYX4_isNewName 2 := ⟨⟨wc_X4_isNewName, wi_X4, by decide, nc_X4.1, nc_X4.2, pd_aJI_Z⟩, wv_X4_isNewName, we_X4_isNewName⟩
theorem mi_X4_number : x_MV mYX4_number 2 := ⟨⟨wc_X4_number, wi_X4, by decide, nc_X4.1, nc_X4.2, pd_II_I⟩, wv_X4_number, we_X4_number⟩
theorem mi_X4_oldName : x_MV mYX4_oldName 2 := ⟨⟨wc_X4_oldName, wi_X4, by decide, nc_X4.1, nc_X4.2, pd_aJI_I⟩, wv_X4_oldName, we_X4_oldName⟩
theorem mi_X4_opens : x_MV mYX4_opens 2 := ⟨⟨wc_X4_opens, wi_X4, by decide, nc_X4.1, nc_X4.2, pd_II_Z⟩, wv_X4_opens, we_X4_opens⟩
theorem mi_X4_opensOnce : x_MV mYX4_opensOnce 0 := ⟨⟨wc_X4_opensOnce, wi_X4, by decide, nc_X4.1, nc_X4.2, pd__Z⟩, wv_X4_opensOnce, we_X4_opensOnce⟩
theorem mi_X4_optional : x_MV mYX4_optional 4 := ⟨⟨wc_X4_optional, wi_X4, by decide, nc_X4.1, nc_X4.2, pd_IIII_I⟩, wv_X4_optional, we_X4_optional⟩
theorem mi_X4_readAfter : x_MV mYX4_readAfter 1 := ⟨⟨wc_X4_readAfter, wi_X4, by decide, nc_X4.1, nc_X4.2, pd_I_Z⟩, wv_X4_readAfter, we_X4_readAfter⟩
theorem mi_X4_readButton : x_MV mYX4_readButton 0 := ⟨⟨wc_X4_readButton, wi_X4, by decide, nc_X4.1, nc_X4.2, pd__Z⟩, wv_X4_readButton, we_X4_readButton⟩
theorem mi_X4_readDeed : x_MV mYX4_readDeed 0 := ⟨⟨wc_X4_readDeed, wi_X4, by decide, nc_X4.1, nc_X4.2, pd__Z⟩, wv_X4_readDeed, we_X4_readDeed⟩
theorem mi_X4_readDraw : x_MV mYX4_readDraw 0 := ⟨⟨wc_X4_readDraw, wi_X4, by decide, nc_X4.1, nc_X4.2, pd__Z⟩, wv_X4_readDraw, we_X4_readDraw⟩
theorem mi_X4_readFriend : x_MV mYX4_readFriend 0 := ⟨⟨wc_X4_readFriend, wi_X4, by decide, nc_X4.1, nc_X4.2, pd__Z⟩, wv_X4_readFriend, we_X4_readFriend⟩
theorem mi_X4_readHoursOfDay : x_MV mYX4_readHoursOfDay 0 := ⟨⟨wc_X4_readHoursOfDay, wi_X4, by decide, nc_X4.1, nc_X4.2, pd__Z⟩, wv_X4_readHoursOfDay, we_X4_readHoursOfDay⟩
theorem mi_X4_readMan : x_MV mYX4_readMan 0 := ⟨⟨wc_X4_readMan, wi_X4, by decide, nc_X4.1, nc_X4.2, pd__Z⟩, wv_X4_readMan, we_X4_readMan⟩
theorem mi_X4_readPromise : x_MV mYX4_readPromise 1 := ⟨⟨wc_X4_readPromise, wi_X4, by decide, nc_X4.1, nc_X4.2, pd_I_Z⟩, wv_X4_readPromise, we_X4_readPromise⟩
theorem mi_X4_readStorm : x_MV mYX4_readStorm 0 := ⟨⟨wc_X4_readStorm, wi_X4, by decide, nc_X4.1, nc_X4.2, pd__Z⟩, wv_X4_readStorm, we_X4_readStorm⟩
theorem mi_X4_readText : x_MV mYX4_readText 2 := ⟨⟨wc_X4_readText, wi_X4, by decide, nc_X4.1, nc_X4.2, pd_aBI_Z⟩, wv_X4_readText, we_X4_readText⟩
theorem mi_X4_readWhose : x_MV mYX4_readWhose 1 := ⟨⟨wc_X4_readWhose, wi_X4, by decide, nc_X4.1, nc_X4.2, pd_I_Z⟩, wv_X4_readWhose, we_X4_readWhose⟩
theorem mi_X4_readWorth : x_MV mYX4_readWorth 2 := ⟨⟨wc_X4_readWorth, wi_X4, by decide, nc_X4.1, nc_X4.2, pd_II_Z⟩, wv_X4_readWorth, we_X4_readWorth⟩
theorem mi_X5_befriend : x_MV mYX5_befriend 3 := ⟨⟨wc_X5_befriend, wi_X5, by decide, nc_X5.1, nc_X5.2, pd_III_V⟩, wv_X5_befriend, we_X5_befriend⟩
theorem mi_X5_copy : x_MS mYX5_copy 2 := ⟨⟨wc_X5_copy, wi_X5, by decide, nc_X5.1, nc_X5.2, pd_aIaI_V⟩, wt_X5_copy⟩
theorem mi_X5_empty : x_MV mYX5_empty 0 := ⟨⟨wc_X5_empty, wi_X5, by decide, nc_X5.1, nc_X5.2, pd__V⟩, wv_X5_empty, we_X5_empty⟩
theorem mi_X5_hasButton : x_MV mYX5_hasButton 1 := ⟨⟨wc_X5_hasButton, wi_X5, by decide, nc_X5.1, nc_X5.2, pd_I_Z⟩, wv_X5_hasButton, we_X5_hasButton⟩
theorem mi_X5_hasDeed : x_MV mYX5_hasDeed 1 := ⟨⟨wc_X5_hasDeed, wi_X5, by decide, nc_X5.1, nc_X5.2, pd_I_Z⟩, wv_X5_hasDeed, we_X5_hasDeed⟩
theorem mi_X5_hasMan : x_MV mYX5_hasMan 1 := ⟨⟨wc_X5_hasMan, wi_X5, by decide, nc_X5.1, nc_X5.2, pd_I_Z⟩, wv_X5_hasMan, we_X5_hasMan⟩
theorem mi_X5_takeOver : x_MV mYX5_takeOver 1 := ⟨⟨wc_X5_takeOver, wi_X5, by decide, nc_X5.1, nc_X5.2, pd_LOathButtonsRegiment_V⟩, wv_X5_takeOver, we_X5_takeOver⟩
theorem mi_X5_traitOf : x_MV mYX5_traitOf 2 := ⟨⟨wc_X5_traitOf, wi_X5, by decide, nc_X5.1, nc_X5.2, pd_II_I⟩, wv_X5_traitOf, we_X5_traitOf⟩
theorem mi_X5_worthOf : x_MV mYX5_worthOf 2 := ⟨⟨wc_X5_worthOf, wi_X5, by decide, nc_X5.1, nc_X5.2, pd_II_I⟩, wv_X5_worthOf, we_X5_worthOf⟩
theorem mi_X6_commonDivisor : x_MS mYX6_commonDivisor 2 := ⟨⟨wc_X6_commonDivisor, wi_X6, by decide, nc_X6.1, nc_X6.2, pd_JJ_J⟩, wt_X6_commonDivisor⟩
theorem mi_X6_daysTillLost : x_MV mYX6_daysTillLost 1 := ⟨⟨wc_X6_daysTillLost, wi_X6, by decide, nc_X6.1, nc_X6.2, pd_I_I⟩, wv_X6_daysTillLost, we_X6_daysTillLost⟩
theorem mi_X6_oddsPart : x_MV mYX6_oddsPart 3 := ⟨⟨wc_X6_oddsPart, wi_X6, by decide, nc_X6.1, nc_X6.2, pd_III_J⟩, wv_X6_oddsPart, we_X6_oddsPart⟩
theorem mi_X6_stateBehind : x_MV mYX6_stateBehind 2 := ⟨⟨wc_X6_stateBehind, wi_X6, by decide, nc_X6.1, nc_X6.2, pd_II_I⟩, wv_X6_stateBehind, we_X6_stateBehind⟩
theorem mi_X6_threadBehind : x_MV mYX6_threadBehind 3 := ⟨⟨wc_X6_threadBehind, wi_X6, by decide, nc_X6.1, nc_X6.2, pd_IIJ_I⟩, wv_X6_threadBehind, we_X6_threadBehind⟩
theorem mi_X6_waysOf : x_MV mYX6_waysOf 2 := ⟨⟨wc_X6_waysOf, wi_X6, by decide, nc_X6.1, nc_X6.2, pd_II_J⟩, wv_X6_waysOf, we_X6_waysOf⟩
theorem mi_X7_advance : x_MV mYX7_advance 0 := ⟨⟨wc_X7_advance, wi_X7, by decide, nc_X7.1, nc_X7.2, pd__V⟩, wv_X7_advance, we_X7_advance⟩
theorem mi_X7_isSign : x_MV mYX7_isSign 1 := ⟨⟨wc_X7_isSign, wi_X7, by decide, nc_X7.1, nc_X7.2, pd_C_Z⟩, wv_X7_isSign, we_X7_isSign⟩
theorem mi_X7_isWord : x_MV mYX7_isWord 1 := ⟨⟨wc_X7_isWord, wi_X7, by decide, nc_X7.1, nc_X7.2, pd_I_Z⟩, wv_X7_isWord, we_X7_isWord⟩
theorem mi_X7_open : x_MV mYX7_open 2 := ⟨⟨wc_X7_open, wi_X7, by decide, nc_X7.1, nc_X7.2, pd_aBI_V⟩, wv_X7_open, we_X7_open⟩
theorem mi_X7_refuse : x_MV mYX7_refuse 1 := ⟨⟨wc_X7_refuse, wi_X7, by decide, nc_X7.1, nc_X7.2, pd_I_Z⟩, wv_X7_refuse, we_X7_refuse⟩
theorem mi_X7_refuseAt : x_MV mYX7_refuseAt 2 := ⟨⟨wc_X7_refuseAt, wi_X7, by decide, nc_X7.1, nc_X7.2, pd_II_Z⟩, wv_X7_refuseAt, we_X7_refuseAt⟩
theorem mi_X7_takeDigits : x_MV mYX7_takeDigits 0 := ⟨⟨wc_X7_takeDigits, wi_X7, by decide, nc_X7.1, nc_X7.2, pd__V⟩, wv_X7_takeDigits, we_X7_takeDigits⟩
theorem mi_X7_takeLetters : x_MV mYX7_takeLetters 0 := ⟨⟨wc_X7_takeLetters, wi_X7, by decide, nc_X7.1, nc_X7.2, pd__V⟩, wv_X7_takeLetters, we_X7_takeLetters⟩
theorem mi_X7_takesSign : x_MV mYX7_takesSign 1 := ⟨⟨wc_X7_takesSign, wi_X7, by decide, nc_X7.1, nc_X7.2, pd_C_Z⟩, wv_X7_takesSign, we_X7_takesSign⟩
theorem mi_X7_takesWord : x_MV mYX7_takesWord 1 := ⟨⟨wc_X7_takesWord, wi_X7, by decide, nc_X7.1, nc_X7.2, pd_I_Z⟩, wv_X7_takesWord, we_X7_takesWord⟩
theorem mi_X7_wordNumber : x_MS mYX7_wordNumber 1 := ⟨⟨wc_X7_wordNumber, wi_X7, by decide, nc_X7.1, nc_X7.2, pd_J_I⟩, wt_X7_wordNumber⟩
theorem mi_X8_copyWith : x_MV mYX8_copyWith 1 := ⟨⟨wc_X8_copyWith, wi_X8, by decide, nc_X8.1, nc_X8.2, pd_aI_V⟩, wv_X8_copyWith, we_X8_copyWith⟩
theorem mi_X8_has : x_MV mYX8_has 1 := ⟨⟨wc_X8_has, wi_X8, by decide, nc_X8.1, nc_X8.2, pd_I_I⟩, wv_X8_has, we_X8_has⟩
theorem mi_X8_isCalm : x_MV mYX8_isCalm 0 := ⟨⟨wc_X8_isCalm, wi_X8, by decide, nc_X8.1, nc_X8.2, pd__Z⟩, wv_X8_isCalm, we_X8_isCalm⟩
theorem mi_X8_pairFrom : x_MV mYX8_pairFrom 1 := ⟨⟨wc_X8_pairFrom, wi_X8, by decide, nc_X8.1, nc_X8.2, pd_I_V⟩, wv_X8_pairFrom, we_X8_pairFrom⟩
theorem mi_X8_tryAll : x_MV mYX8_tryAll 0 := ⟨⟨wc_X8_tryAll, wi_X8, by decide, nc_X8.1, nc_X8.2, pd__V⟩, wv_X8_tryAll, we_X8_tryAll⟩
theorem mi_X8_weigh : x_MV mYX8_weigh 0 := ⟨⟨wc_X8_weigh, wi_X8, by decide, nc_X8.1, nc_X8.2, pd__V⟩, wv_X8_weigh, we_X8_weigh⟩
theorem mi_X9_fits : x_MV mYX9_fits 2 := ⟨⟨wc_X9_fits, wi_X9, by decide, nc_X9.1, nc_X9.2, pd_II_Z⟩, wv_X9_fits, we_X9_fits⟩
theorem mi_X9_forgetAll : x_MV mYX9_forgetAll 0 := ⟨⟨wc_X9_forgetAll, wi_X9, by decide, nc_X9.1, nc_X9.2, pd__V⟩, wv_X9_forgetAll, we_X9_forgetAll⟩
theorem mi_X9_leftAtMost : x_MV mYX9_leftAtMost 2 := ⟨⟨wc_X9_leftAtMost, wi_X9, by decide, nc_X9.1, nc_X9.2, pd_II_I⟩, wv_X9_leftAtMost, we_X9_leftAtMost⟩
theorem mi_X9_suspects : x_MV mYX9_suspects 1 := ⟨⟨wc_X9_suspects, wi_X9, by decide, nc_X9.1, nc_X9.2, pd_I_I⟩, wv_X9_suspects, we_X9_suspects⟩
theorem mi_X9_takeBack : x_MV mYX9_takeBack 1 := ⟨⟨wc_X9_takeBack, wi_X9, by decide, nc_X9.1, nc_X9.2, pd_I_Z⟩, wv_X9_takeBack, we_X9_takeBack⟩
theorem mi_X9_tell : x_MV mYX9_tell 3 := ⟨⟨wc_X9_tell, wi_X9, by decide, nc_X9.1, nc_X9.2, pd_IIZ_I⟩, wv_X9_tell, we_X9_tell⟩
end
