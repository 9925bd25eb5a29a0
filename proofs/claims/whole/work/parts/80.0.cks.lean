theorem ck_0_0 : mchR 0 0 64 = true := by decide +kernel
theorem ck_0 : mchA 0 := mchA_of (n := 21) (l := [0]) (by decide +kernel) (by decide) (by decide +kernel) (List.forall_mem_cons.mpr ⟨ck_0_0, fun _ h => absurd h List.not_mem_nil⟩)
theorem cm_0 : mchM 0 = true := by decide +kernel
theorem ck_1_0 : mchR 1 0 64 = true := by decide +kernel
theorem ck_1 : mchA 1 := mchA_of (n := 20) (l := [0]) (by decide +kernel) (by decide) (by decide +kernel) (List.forall_mem_cons.mpr ⟨ck_1_0, fun _ h => absurd h List.not_mem_nil⟩)
theorem cm_1 : mchM 1 = true := by decide +kernel
theorem ck_2_0 : mchR 2 0 64 = true := by decide +kernel
theorem ck_2 : mchA 2 := mchA_of (n := 40) (l := [0]) (by decide +kernel) (by decide) (by decide +kernel) (List.forall_mem_cons.mpr ⟨ck_2_0, fun _ h => absurd h List.not_mem_nil⟩)
theorem cm_2 : mchM 2 = true := by decide +kernel
theorem ck_3_0 : mchR 3 0 64 = true := by decide +kernel
theorem ck_3_1 : mchR 3 64 64 = true := by decide +kernel
theorem ck_3 : mchA 3 := mchA_of (n := 67) (l := [0, 1]) (by decide +kernel) (by decide) (by decide +kernel) (List.forall_mem_cons.mpr ⟨ck_3_0, List.forall_mem_cons.mpr ⟨ck_3_1, fun _ h => absurd h List.not_mem_nil⟩⟩)
theorem cm_3 : mchM 3 = true := by decide +kernel
theorem ck_4_0 : mchR 4 0 64 = true := by decide +kernel
theorem ck_4 : mchA 4 := mchA_of (n := 42) (l := [0]) (by decide +kernel) (by decide) (by decide +kernel) (List.forall_mem_cons.mpr ⟨ck_4_0, fun _ h => absurd h List.not_mem_nil⟩)
theorem cm_4 : mchM 4 = true := by decide +kernel
theorem ck_5_0 : mchR 5 0 64 = true := by decide +kernel
theorem ck_5 : mchA 5 := mchA_of (n := 37) (l := [0]) (by decide +kernel) (by decide) (by decide +kernel) (List.forall_mem_cons.mpr ⟨ck_5_0, fun _ h => absurd h List.not_mem_nil⟩)
theorem cm_5 : mchM 5 = true := by decide +kernel
theorem ck_6_0 : mchR 6 0 64 = true := by decide +kernel
theorem ck_6 : mchA 6 := mchA_of (n := 39) (l := [0]) (by decide +kernel) (by decide) (by decide +kernel) (List.forall_mem_cons.mpr ⟨ck_6_0, fun _ h => absurd h List.not_mem_nil⟩)
theorem cm_6 : mchM 6 = true := by decide +kernel
theorem ck_7_0 : mchR 7 0 64 = true := by decide +kernel
theorem ck_7 : mchA 7 := mchA_of (n := 20) (l := [0]) (by decide +kernel) (by decide) (by decide +kernel) (List.forall_mem_cons.mpr ⟨ck_7_0, fun _ h => absurd h List.not_mem_nil⟩)
theorem cm_7 : mchM 7 = true := by decide +kernel
theorem ck_8_0 : mchR 8 0 64 = true := by decide +kernel
theorem ck_8_1 : mchR 8 64 64 = true := by decide +kernel
theorem ck_8 : mchA 8 := mchA_of (n := 74) (l := [0, 1]) (by decide +kernel) (by decide) (by decide +kernel) (List.forall_mem_cons.mpr ⟨ck_8_0, List.forall_mem_cons.mpr ⟨ck_8_1, fun _ h => absurd h List.not_mem_nil⟩⟩)
theorem cm_8 : mchM 8 = true := by decide +kernel
theorem ck_9_0 : mchR 9 0 64 = true := by decide +kernel
theorem ck_9 : mchA 9 := mchA_of (n := 15) (l := [0]) (by decide +kernel) (by decide) (by decide +kernel) (List.forall_mem_cons.mpr ⟨ck_9_0, fun _ h => absurd h List.not_mem_nil⟩)
theorem cm_9 : mchM 9 = true := by decide +kernel
theorem ck_10_0 : mchR 10 0 64 = true := by decide +kernel
theorem ck_10_1 : mchR 10 64 64 = true := by decide +kernel
theorem ck_10 : mchA 10 := mchA_of (n := 85) (l := [0, 1]) (by decide +kernel) (by decide) (by decide +kernel) (List.forall_mem_cons.mpr ⟨ck_10_0, List.forall_mem_cons.mpr ⟨ck_10_1, fun _ h => absurd h List.not_mem_nil⟩⟩)
theorem cm_10 : mchM 10 = true := by decide +kernel
theorem ck_11_0 : mchR 11 0 64 = true := by decide +kernel
theorem ck_11_1 : mchR 11 64 64 = true := by decide +kernel
theorem ck_11_2 : mchR 11 128 64 = true := by decide +kernel
theorem ck_11_3 : mchR 11 192 64 = true := by decide +kernel
theorem ck_11_4 : mchR 11 256 64 = true := by decide +kernel
theorem ck_11_5 : mchR 11 320 64 = true := by decide +kernel
theorem ck_11_6 : mchR 11 384 64 = true := by decide +kernel
theorem ck_11_7 : mchR 11 448 64 = true := by decide +kernel
theorem ck_11_8 : mchR 11 512 64 = true := by decide +kernel
theorem ck_11_9 : mchR 11 576 64 = true := by decide +kernel
theorem ck_11_10 : mchR 11 640 64 = true := by decide +kernel
theorem ck_11_11 : mchR 11 704 64 = true := by decide +kernel
theorem ck_11_12 : mchR 11 768 64 = true := by decide +kernel
theorem ck_11_13 : mchR 11 832 64 = true := by decide +kernel
theorem ck_11 : mchA 11 := mchA_of (n := 841) (l := [0, 1, 2, 3, 4, 5, 6, 7, 8, 9, 10, 11, 12, 13]) (by decide +kernel) (by decide) (by decide +kernel) (List.forall_mem_cons.mpr ⟨ck_11_0, List.forall_mem_cons.mpr ⟨ck_11_1, List.forall_mem_cons.mpr ⟨ck_11_2, List.forall_mem_cons.mpr ⟨ck_11_3, List.forall_mem_cons.mpr ⟨ck_11_4, List.forall_mem_cons.mpr ⟨ck_11_5, List.forall_mem_cons.mpr ⟨ck_11_6, List.forall_mem_cons.mpr ⟨ck_11_7, List.forall_mem_cons.mpr ⟨ck_11_8, List.forall_mem_cons.mpr ⟨ck_11_9, List.forall_mem_cons.mpr ⟨ck_11_10, List.forall_mem_cons.mpr ⟨ck_11_11, List.forall_mem_cons.mpr ⟨ck_11_12, List.forall_mem_cons.mpr ⟨ck_11_13, fun _ h => absurd h List.not_mem_nil⟩⟩⟩⟩⟩⟩⟩⟩⟩⟩⟩⟩⟩⟩)
theorem cm_11 : mchM 11 = true := by decide +kernel
theorem ck_12_0 : mchR 12 0 64 = true := by decide +kernel
theorem ck_12 : mchA 12 := mchA_of (n := 49) (l := [0]) (by decide +kernel) (by decide) (by decide +kernel) (List.forall_mem_cons.mpr ⟨ck_12_0, fun _ h => absurd h List.not_mem_nil⟩)
theorem cm_12 : mchM 12 = true := by decide +kernel
theorem ck_13_0 : mchR 13 0 64 = true := by decide +kernel
theorem ck_13 : mchA 13 := mchA_of (n := 47) (l := [0]) (by decide +kernel) (by decide) (by decide +kernel) (List.forall_mem_cons.mpr ⟨ck_13_0, fun _ h => absurd h List.not_mem_nil⟩)
theorem cm_13 : mchM 13 = true := by decide +kernel
theorem ck_14_0 : mchR 14 0 64 = true := by decide +kernel
theorem ck_14_1 : mchR 14 64 64 = true := by decide +kernel
theorem ck_14_2 : mchR 14 128 64 = true := by decide +kernel
theorem ck_14 : mchA 14 := mchA_of (n := 129) (l := [0, 1, 2]) (by decide +kernel) (by decide) (by decide +kernel) (List.forall_mem_cons.mpr ⟨ck_14_0, List.forall_mem_cons.mpr ⟨ck_14_1, List.forall_mem_cons.mpr ⟨ck_14_2, fun _ h => absurd h List.not_mem_nil⟩⟩⟩)
theorem cm_14 : mchM 14 = true := by decide +kernel
theorem ck_15_0 : mchR 15 0 64 = true := by decide +kernel
theorem ck_15 : mchA 15 := mchA_of (n := 32) (l := [0]) (by decide +kernel) (by decide) (by decide +kernel) (List.forall_mem_cons.mpr ⟨ck_15_0, fun _ h => absurd h List.not_mem_nil⟩)
theorem cm_15 : mchM 15 = true := by decide +kernel
theorem ck_16_0 : mchR 16 0 64 = true := by decide +kernel
theorem ck_16 : mchA 16 := mchA_of (n := 38) (l := [0]) (by decide +kernel) (by decide) (by decide +kernel) (List.forall_mem_cons.mpr ⟨ck_16_0, fun _ h => absurd h List.not_mem_nil⟩)
theorem cm_16 : mchM 16 = true := by decide +kernel
theorem ck_17_0 : mchR 17 0 64 = true := by decide +kernel
theorem ck_17 : mchA 17 := mchA_of (n := 18) (l := [0]) (by decide +kernel) (by decide) (by decide +kernel) (List.forall_mem_cons.mpr ⟨ck_17_0, fun _ h => absurd h List.not_mem_nil⟩)
theorem cm_17 : mchM 17 = true := by decide +kernel
theorem ck_18_0 : mchR 18 0 64 = true := by decide +kernel
theorem ck_18 : mchA 18 := mchA_of (n := 18) (l := [0]) (by decide +kernel) (by decide) (by decide +kernel) (List.forall_mem_cons.mpr ⟨ck_18_0, fun _ h => absurd h List.not_mem_nil⟩)
theorem cm_18 : mchM 18 = true := by decide +kernel
theorem ck_19_0 : mchR 19 0 64 = true := by decide +kernel
theorem ck_19_1 : mchR 19 64 64 = true := by decide +kernel
theorem ck_19_2 : mchR 19 128 64 = true := by decide +kernel
theorem ck_19 : mchA 19 := mchA_of (n := 130) (l := [0, 1, 2]) (by decide +kernel) (by decide) (by decide +kernel) (List.forall_mem_cons.mpr ⟨ck_19_0, List.forall_mem_cons.mpr ⟨ck_19_1, List.forall_mem_cons.mpr ⟨ck_19_2, fun _ h => absurd h List.not_mem_nil⟩⟩⟩)
theorem cm_19 : mchM 19 = true := by decide +kernel
theorem ck_20_0 : mchR 20 0 64 = true := by decide +kernel
theorem ck_20 : mchA 20 := mchA_of (n := 15) (l := [0]) (by decide +kernel) (by decide) (by decide +kernel) (List.forall_mem_cons.mpr ⟨ck_20_0, fun _ h => absurd h List.not_mem_nil⟩)
theorem cm_20 : mchM 20 = true := by decide +kernel
theorem ck_21_0 : mchR 21 0 64 = true := by decide +kernel
theorem ck_21 : mchA 21 := mchA_of (n := 11) (l := [0]) (by decide +kernel) (by decide) (by decide +kernel) (List.forall_mem_cons.mpr ⟨ck_21_0, fun _ h => absurd h List.not_mem_nil⟩)
theorem cm_21 : mchM 21 = true := by decide +kernel
theorem ck_22_0 : mchR 22 0 64 = true := by decide +kernel
theorem ck_22 : mchA 22 := mchA_of (n := 19) (l := [0]) (by decide +kernel) (by decide) (by decide +kernel) (List.forall_mem_cons.mpr ⟨ck_22_0, fun _ h => absurd h List.not_mem_nil⟩)
theorem cm_22 : mchM 22 = true := by decide +kernel
theorem ck_23_0 : mchR 23 0 64 = true := by decide +kernel
theorem ck_23 : mchA 23 := mchA_of (n := 18) (l := [0]) (by decide +kernel) (by decide) (by decide +kernel) (List.forall_mem_cons.mpr ⟨ck_23_0, fun _ h => absurd h List.not_mem_nil⟩)
theorem cm_23 : mchM 23 = true := by decide +kernel
theorem ck_24_0 : mchR 24 0 64 = true := by decide +kernel
theorem ck_24 : mchA 24 := mchA_of (n := 10) (l := [0]) (by decide +kernel) (by decide) (by decide +kernel) (List.forall_mem_cons.mpr ⟨ck_24_0, fun _ h => absurd h List.not_mem_nil⟩)
theorem cm_24 : mchM 24 = true := by decide +kernel
theorem ck_25_0 : mchR 25 0 64 = true := by decide +kernel
theorem ck_25 : mchA 25 := mchA_of (n := 15) (l := [0]) (by decide +kernel) (by decide) (by decide +kernel) (List.forall_mem_cons.mpr ⟨ck_25_0, fun _ h => absurd h List.not_mem_nil⟩)
theorem cm_25 : mchM 25 = true := by decide +kernel
theorem ck_26_0 : mchR 26 0 64 = true := by decide +kernel
theorem ck_26 : mchA 26 := mchA_of (n := 25) (l := [0]) (by decide +kernel) (by decide) (by decide +kernel) (List.forall_mem_cons.mpr ⟨ck_26_0, fun _ h => absurd h List.not_mem_nil⟩)
theorem cm_26 : mchM 26 = true := by decide +kernel
theorem ck_27_0 : mchR 27 0 64 = true := by decide +kernel
theorem ck_27_1 : mchR 27 64 64 = true := by decide +kernel
theorem ck_27 : mchA 27 := mchA_of (n := 91) (l := [0, 1]) (by decide +kernel) (by decide) (by decide +kernel) (List.forall_mem_cons.mpr ⟨ck_27_0, List.forall_mem_cons.mpr ⟨ck_27_1, fun _ h => absurd h List.not_mem_nil⟩⟩)
theorem cm_27 : mchM 27 = true := by decide +kernel
theorem ck_28_0 : mchR 28 0 64 = true := by decide +kernel
theorem ck_28_1 : mchR 28 64 64 = true := by decide +kernel
theorem ck_28 : mchA 28 := mchA_of (n := 86) (l := [0, 1]) (by decide +kernel) (by decide) (by decide +kernel) (List.forall_mem_cons.mpr ⟨ck_28_0, List.forall_mem_cons.mpr ⟨ck_28_1, fun _ h => absurd h List.not_mem_nil⟩⟩)
theorem cm_28 : mchM 28 = true := by decide +kernel
theorem ck_29_0 : mchR 29 0 64 = true := by decide +kernel
theorem ck_29 : mchA 29 := mchA_of (n := 17) (l := [0]) (by decide +kernel) (by decide) (by decide +kernel) (List.forall_mem_cons.mpr ⟨ck_29_0, fun _ h => absurd h List.not_mem_nil⟩)
theorem cm_29 : mchM 29 = true := by decide +kernel
theorem ck_30_0 : mchR 30 0 64 = true := by decide +kernel
theorem ck_30 : mchA 30 := mchA_of (n := 33) (l := [0]) (by decide +kernel) (by decide) (by decide +kernel) (List.forall_mem_cons.mpr ⟨ck_30_0, fun _ h => absurd h List.not_mem_nil⟩)
theorem cm_30 : mchM 30 = true := by decide +kernel
theorem ck_31_0 : mchR 31 0 64 = true := by decide +kernel
theorem ck_31 : mchA 31 := mchA_of (n := 37) (l := [0]) (by decide +kernel) (by decide) (by decide +kernel) (List.forall_mem_cons.mpr ⟨ck_31_0, fun _ h => absurd h List.not_mem_nil⟩)
theorem cm_31 : mchM 31 = true := by decide +kernel
theorem ck_32_0 : mchR 32 0 64 = true := by decide +kernel
theorem ck_32 : mchA 32 := mchA_of (n := 37) (l := [0]) (by decide +kernel) (by decide) (by decide +kernel) (List.forall_mem_cons.mpr ⟨ck_32_0, fun _ h => absurd h List.not_mem_nil⟩)
theorem cm_32 : mchM 32 = true := by decide +kernel
theorem ck_33_0 : mchR 33 0 64 = true := by decide +kernel
theorem ck_33 : mchA 33 := mchA_of (n := 7) (l := [0]) (by decide +kernel) (by decide) (by decide +kernel) (List.forall_mem_cons.mpr ⟨ck_33_0, fun _ h => absurd h List.not_mem_nil⟩)
theorem cm_33 : mchM 33 = true := by decide +kernel
theorem ck_34_0 : mchR 34 0 64 = true := by decide +kernel
theorem ck_34_1 : mchR 34 64 64 = true := by decide +kernel
theorem ck_34 : mchA 34 := mchA_of (n := 90) (l := [0, 1]) (by decide +kernel) (by decide) (by decide +kernel) (List.forall_mem_cons.mpr ⟨ck_34_0, List.forall_mem_cons.mpr ⟨ck_34_1, fun _ h => absurd h List.not_mem_nil⟩⟩)
theorem cm_34 : mchM 34 = true := by decide +kernel
theorem ck_35_0 : mchR 35 0 64 = true := by decide +kernel
theorem ck_35 : mchA 35 := mchA_of (n := 53) (l := [0]) (by decide +kernel) (by decide) (by decide +kernel) (List.forall_mem_cons.mpr ⟨ck_35_0, fun _ h => absurd h List.not_mem_nil⟩)
theorem cm_35 : mchM 35 = true := by decide +kernel
theorem ck_36_0 : mchR 36 0 64 = true := by decide +kernel
theorem ck_36_1 : mchR 36 64 64 = true := by decide +kernel
theorem ck_36 : mchA 36 := mchA_of (n := 121) (l := [0, 1]) (by decide +kernel) (by decide) (by decide +kernel) (List.forall_mem_cons.mpr ⟨ck_36_0, List.forall_mem_cons.mpr ⟨ck_36_1, fun _ h => absurd h List.not_mem_nil⟩⟩)
theorem cm_36 : mchM 36 = true := by decide +kernel
theorem ck_37_0 : mchR 37 0 64 = true := by decide +kernel
theorem ck_37 : mchA 37 := mchA_of (n := 6) (l := [0]) (by decide +kernel) (by decide) (by decide +kernel) (List.forall_mem_cons.mpr ⟨ck_37_0, fun _ h => absurd h List.not_mem_nil⟩)
theorem cm_37 : mchM 37 = true := by decide +kernel
theorem ck_38_0 : mchR 38 0 64 = true := by decide +kernel
theorem ck_38 : mchA 38 := mchA_of (n := 6) (l := [0]) (by decide +kernel) (by decide) (by decide +kernel) (List.forall_mem_cons.mpr ⟨ck_38_0, fun _ h => absurd h List.not_mem_nil⟩)
theorem cm_38 : mchM 38 = true := by decide +kernel
theorem ck_39_0 : mchR 39 0 64 = true := by decide +kernel
theorem ck_39 : mchA 39 := mchA_of (n := 23) (l := [0]) (by decide +kernel) (by decide) (by decide +kernel) (List.forall_mem_cons.mpr ⟨ck_39_0, fun _ h => absurd h List.not_mem_nil⟩)
theorem cm_39 : mchM 39 = true := by decide +kernel
theorem ck_40_0 : mchR 40 0 64 = true := by decide +kernel
theorem ck_40 : mchA 40 := mchA_of (n := 33) (l := [0]) (by decide +kernel) (by decide) (by decide +kernel) (List.forall_mem_cons.mpr ⟨ck_40_0, fun _ h => absurd h List.not_mem_nil⟩)
theorem cm_40 : mchM 40 = true := by decide +kernel
theorem ck_41_0 : mchR 41 0 64 = true := by decide +kernel
theorem ck_41_1 : mchR 41 64 64 = true := by decide +kernel
theorem ck_41 : mchA 41 := mchA_of (n := 68) (l := [0, 1]) (by decide +kernel) (by decide) (by decide +kernel) (List.forall_mem_cons.mpr ⟨ck_41_0, List.forall_mem_cons.mpr ⟨ck_41_1, fun _ h => absurd h List.not_mem_nil⟩⟩)
theorem cm_41 : mchM 41 = true := by decide +kernel
theorem ck_42_0 : mchR 42 0 64 = true := by decide +kernel
theorem ck_42 : mchA 42 := mchA_of (n := 24) (l := [0]) (by decide +kernel) (by decide) (by decide +kernel) (List.forall_mem_cons.mpr ⟨ck_42_0, fun _ h => absurd h List.not_mem_nil⟩)
theorem cm_42 : mchM 42 = true := by decide +kernel
theorem ck_43_0 : mchR 43 0 64 = true := by decide +kernel
theorem ck_43 : mchA 43 := mchA_of (n := 36) (l := [0]) (by decide +kernel) (by decide) (by decide +kernel) (List.forall_mem_cons.mpr ⟨ck_43_0, fun _ h => absurd h List.not_mem_nil⟩)
theorem cm_43 : mchM 43 = true := by decide +kernel
theorem ck_44_0 : mchR 44 0 64 = true := by decide +kernel
theorem ck_44_1 : mchR 44 64 64 = true := by decide +kernel
theorem ck_44 : mchA 44 := mchA_of (n := 67) (l := [0, 1]) (by decide +kernel) (by decide) (by decide +kernel) (List.forall_mem_cons.mpr ⟨ck_44_0, List.forall_mem_cons.mpr ⟨ck_44_1, fun _ h => absurd h List.not_mem_nil⟩⟩)
theorem cm_44 : mchM 44 = true := by decide +kernel
theorem ck_45_0 : mchR 45 0 64 = true := by decide +kernel
theorem ck_45 : mchA 45 := mchA_of (n := 56) (l := [0]) (by decide +kernel) (by decide) (by decide +kernel) (List.forall_mem_cons.mpr ⟨ck_45_0, fun _ h => absurd h List.not_mem_nil⟩)
theorem cm_45 : mchM 45 = true := by decide +kernel
theorem ck_46_0 : mchR 46 0 64 = true := by decide +kernel
theorem ck_46 : mchA 46 := mchA_of (n := 21) (l := [0]) (by decide +kernel) (by decide) (by decide +kernel) (List.forall_mem_cons.mpr ⟨ck_46_0, fun _ h => absurd h List.not_mem_nil⟩)
theorem cm_46 : mchM 46 = true := by decide +kernel
theorem ck_47_0 : mchR 47 0 64 = true := by decide +kernel
theorem ck_47 : mchA 47 := mchA_of (n := 51) (l := [0]) (by decide +kernel) (by decide) (by decide +kernel) (List.forall_mem_cons.mpr ⟨ck_47_0, fun _ h => absurd h List.not_mem_nil⟩)
theorem cm_47 : mchM 47 = true := by decide +kernel
theorem ck_48_0 : mchR 48 0 64 = true := by decide +kernel
theorem ck_48 : mchA 48 := mchA_of (n := 16) (l := [0]) (by decide +kernel) (by decide) (by decide +kernel) (List.forall_mem_cons.mpr ⟨ck_48_0, fun _ h => absurd h List.not_mem_nil⟩)
theorem cm_48 : mchM 48 = true := by decide +kernel
theorem ck_49_0 : mchR 49 0 64 = true := by decide +kernel
theorem ck_49_1 : mchR 49 64 64 = true := by decide +kernel
theorem ck_49_2 : mchR 49 128 64 = true := by decide +kernel
theorem ck_49 : mchA 49 := mchA_of (n := 162) (l := [0, 1, 2]) (by decide +kernel) (by decide) (by decide +kernel) (List.forall_mem_cons.mpr ⟨ck_49_0, List.forall_mem_cons.mpr ⟨ck_49_1, List.forall_mem_cons.mpr ⟨ck_49_2, fun _ h => absurd h List.not_mem_nil⟩⟩⟩)
theorem cm_49 : mchM 49 = true := by decide +kernel
theorem ck_50_0 : mchR 50 0 64 = true := by decide +kernel
theorem ck_50 : mchA 50 := mchA_of (n := 58) (l := [0]) (by decide +kernel) (by decide) (by decide +kernel) (List.forall_mem_cons.mpr ⟨ck_50_0, fun _ h => absurd h List.not_mem_nil⟩)
theorem cm_50 : mchM 50 = true := by decide +kernel
theorem ck_51_0 : mchR 51 0 64 = true := by decide +kernel
theorem ck_51 : mchA 51 := mchA_of (n := 49) (l := [0]) (by decide +kernel) (by decide) (by decide +kernel) (List.forall_mem_cons.mpr ⟨ck_51_0, fun _ h => absurd h List.not_mem_nil⟩)
theorem cm_51 : mchM 51 = true := by decide +kernel
theorem ck_52_0 : mchR 52 0 64 = true := by decide +kernel
theorem ck_52 : mchA 52 := mchA_of (n := 55) (l := [0]) (by decide +kernel) (by decide) (by decide +kernel) (List.forall_mem_cons.mpr ⟨ck_52_0, fun _ h => absurd h List.not_mem_nil⟩)
theorem cm_52 : mchM 52 = true := by decide +kernel
theorem ck_53_0 : mchR 53 0 64 = true := by decide +kernel
theorem ck_53 : mchA 53 := mchA_of (n := 50) (l := [0]) (by decide +kernel) (by decide) (by decide +kernel) (List.forall_mem_cons.mpr ⟨ck_53_0, fun _ h => absurd h List.not_mem_nil⟩)
theorem cm_53 : mchM 53 = true := by decide +kernel
theorem ck_54_0 : mchR 54 0 64 = true := by decide +kernel
theorem ck_54 : mchA 54 := mchA_of (n := 30) (l := [0]) (by decide +kernel) (by decide) (by decide +kernel) (List.forall_mem_cons.mpr ⟨ck_54_0, fun _ h => absurd h List.not_mem_nil⟩)
theorem cm_54 : mchM 54 = true := by decide +kernel
theorem ck_55_0 : mchR 55 0 64 = true := by decide +kernel
theorem ck_55_1 : mchR 55 64 64 = true := by decide +kernel
theorem ck_55 : mchA 55 := mchA_of (n := 86) (l := [0, 1]) (by decide +kernel) (by decide) (by decide +kernel) (List.forall_mem_cons.mpr ⟨ck_55_0, List.forall_mem_cons.mpr ⟨ck_55_1, fun _ h => absurd h List.not_mem_nil⟩⟩)
theorem cm_55 : mchM 55 = true := by decide +kernel
theorem ck_56_0 : mchR 56 0 64 = true := by decide +kernel
theorem ck_56_1 : mchR 56 64 64 = true := by decide +kernel
theorem ck_56 : mchA 56 := mchA_of (n := 84) (l := [0, 1]) (by decide +kernel) (by decide) (by decide +kernel) (List.forall_mem_cons.mpr ⟨ck_56_0, List.forall_mem_cons.mpr ⟨ck_56_1, fun _ h => absurd h List.not_mem_nil⟩⟩)
theorem cm_56 : mchM 56 = true := by decide +kernel
theorem ck_57_0 : mchR 57 0 64 = true := by decide +kernel
theorem ck_57_1 : mchR 57 64 64 = true := by decide +kernel
theorem ck_57 : mchA 57 := mchA_of (n := 66) (l := [0, 1]) (by decide +kernel) (by decide) (by decide +kernel) (List.forall_mem_cons.mpr ⟨ck_57_0, List.forall_mem_cons.mpr ⟨ck_57_1, fun _ h => absurd h List.not_mem_nil⟩⟩)
theorem cm_57 : mchM 57 = true := by decide +kernel
theorem ck_58_0 : mchR 58 0 64 = true := by decide +kernel
theorem ck_58 : mchA 58 := mchA_of (n := 15) (l := [0]) (by decide +kernel) (by decide) (by decide +kernel) (List.forall_mem_cons.mpr ⟨ck_58_0, fun _ h => absurd h List.not_mem_nil⟩)
theorem cm_58 : mchM 58 = true := by decide +kernel
theorem ck_59_0 : mchR 59 0 64 = true := by decide +kernel
theorem ck_59 : mchA 59 := mchA_of (n := 28) (l := [0]) (by decide +kernel) (by decide) (by decide +kernel) (List.forall_mem_cons.mpr ⟨ck_59_0, fun _ h => absurd h List.not_mem_nil⟩)
theorem cm_59 : mchM 59 = true := by decide +kernel
theorem ck_60_0 : mchR 60 0 64 = true := by decide +kernel
theorem ck_60 : mchA 60 := mchA_of (n := 20) (l := [0]) (by decide +kernel) (by decide) (by decide +kernel) (List.forall_mem_cons.mpr ⟨ck_60_0, fun _ h => absurd h List.not_mem_nil⟩)
theorem cm_60 : mchM 60 = true := by decide +kernel
theorem ck_61_0 : mchR 61 0 64 = true := by decide +kernel
theorem ck_61 : mchA 61 := mchA_of (n := 18) (l := [0]) (by decide +kernel) (by decide) (by decide +kernel) (List.forall_mem_cons.mpr ⟨ck_61_0, fun _ h => absurd h List.not_mem_nil⟩)
theorem cm_61 : mchM 61 = true := by decide +kernel
theorem ck_62_0 : mchR 62 0 64 = true := by decide +kernel
theorem ck_62_1 : mchR 62 64 64 = true := by decide +kernel
theorem ck_62 : mchA 62 := mchA_of (n := 115) (l := [0, 1]) (by decide +kernel) (by decide) (by decide +kernel) (List.forall_mem_cons.mpr ⟨ck_62_0, List.forall_mem_cons.mpr ⟨ck_62_1, fun _ h => absurd h List.not_mem_nil⟩⟩)
theorem cm_62 : mchM 62 = true := by decide +kernel
theorem ck_63_0 : mchR 63 0 64 = true := by decide +kernel
theorem ck_63 : mchA 63 := mchA_of (n := 26) (l := [0]) (by decide +kernel) (by decide) (by decide +kernel) (List.forall_mem_cons.mpr ⟨ck_63_0, fun _ h => absurd h List.not_mem_nil⟩)
theorem cm_63 : mchM 63 = true := by decide +kernel
theorem ck_64_0 : mchR 64 0 64 = true := by decide +kernel
theorem ck_64 : mchA 64 := mchA_of (n := 52) (l := [0]) (by decide +kernel) (by decide) (by decide +kernel) (List.forall_mem_cons.mpr ⟨ck_64_0, fun _ h => absurd h List.not_mem_nil⟩)
theorem cm_64 : mchM 64 = true := by decide +kernel
theorem ck_65_0 : mchR 65 0 64 = true := by decide +kernel
theorem ck_65_1 : mchR 65 64 64 = true := by decide +kernel
theorem ck_65_2 : mchR 65 128 64 = true := by decide +kernel
theorem ck_65 : mchA 65 := mchA_of (n := 160) (l := [0, 1, 2]) (by decide +kernel) (by decide) (by decide +kernel) (List.forall_mem_cons.mpr ⟨ck_65_0, List.forall_mem_cons.mpr ⟨ck_65_1, List.forall_mem_cons.mpr ⟨ck_65_2, fun _ h => absurd h List.not_mem_nil⟩⟩⟩)
theorem cm_65 : mchM 65 = true := by decide +kernel
theorem ck_66_0 : mchR 66 0 64 = true := by decide +kernel
theorem ck_66 : mchA 66 := mchA_of (n := 5) (l := [0]) (by decide +kernel) (by decide) (by decide +kernel) (List.forall_mem_cons.mpr ⟨ck_66_0, fun _ h => absurd h List.not_mem_nil⟩)
theorem cm_66 : mchM 66 = true := by decide +kernel
theorem ck_67_0 : mchR 67 0 64 = true := by decide +kernel
theorem ck_67 : mchA 67 := mchA_of (n := 34) (l := [0]) (by decide +kernel) (by decide) (by decide +kernel) (List.forall_mem_cons.mpr ⟨ck_67_0, fun _ h => absurd h List.not_mem_nil⟩)
theorem cm_67 : mchM 67 = true := by decide +kernel
theorem ck_68_0 : mchR 68 0 64 = true := by decide +kernel
theorem ck_68 : mchA 68 := mchA_of (n := 37) (l := [0]) (by decide +kernel) (by decide) (by decide +kernel) (List.forall_mem_cons.mpr ⟨ck_68_0, fun _ h => absurd h List.not_mem_nil⟩)
theorem cm_68 : mchM 68 = true := by decide +kernel
theorem ck_69_0 : mchR 69 0 64 = true := by decide +kernel
theorem ck_69 : mchA 69 := mchA_of (n := 6) (l := [0]) (by decide +kernel) (by decide) (by decide +kernel) (List.forall_mem_cons.mpr ⟨ck_69_0, fun _ h => absurd h List.not_mem_nil⟩)
theorem cm_69 : mchM 69 = true := by decide +kernel
theorem ck_70_0 : mchR 70 0 64 = true := by decide +kernel
theorem ck_70_1 : mchR 70 64 64 = true := by decide +kernel
theorem ck_70_2 : mchR 70 128 64 = true := by decide +kernel
theorem ck_70_3 : mchR 70 192 64 = true := by decide +kernel
theorem ck_70 : mchA 70 := mchA_of (n := 246) (l := [0, 1, 2, 3]) (by decide +kernel) (by decide) (by decide +kernel) (List.forall_mem_cons.mpr ⟨ck_70_0, List.forall_mem_cons.mpr ⟨ck_70_1, List.forall_mem_cons.mpr ⟨ck_70_2, List.forall_mem_cons.mpr ⟨ck_70_3, fun _ h => absurd h List.not_mem_nil⟩⟩⟩⟩)
theorem cm_70 : mchM 70 = true := by decide +kernel
theorem ck_71_0 : mchR 71 0 64 = true := by decide +kernel
theorem ck_71_1 : mchR 71 64 64 = true := by decide +kernel
theorem ck_71 : mchA 71 := mchA_of (n := 76) (l := [0, 1]) (by decide +kernel) (by decide) (by decide +kernel) (List.forall_mem_cons.mpr ⟨ck_71_0, List.forall_mem_cons.mpr ⟨ck_71_1, fun _ h => absurd h List.not_mem_nil⟩⟩)
theorem cm_71 : mchM 71 = true := by decide +kernel
theorem ck_72_0 : mchR 72 0 64 = true := by decide +kernel
theorem ck_72_1 : mchR 72 64 64 = true := by decide +kernel
theorem ck_72 : mchA 72 := mchA_of (n := 86) (l := [0, 1]) (by decide +kernel) (by decide) (by decide +kernel) (List.forall_mem_cons.mpr ⟨ck_72_0, List.forall_mem_cons.mpr ⟨ck_72_1, fun _ h => absurd h List.not_mem_nil⟩⟩)
theorem cm_72 : mchM 72 = true := by decide +kernel
theorem ck_73_0 : mchR 73 0 64 = true := by decide +kernel
theorem ck_73_1 : mchR 73 64 64 = true := by decide +kernel
theorem ck_73 : mchA 73 := mchA_of (n := 86) (l := [0, 1]) (by decide +kernel) (by decide) (by decide +kernel) (List.forall_mem_cons.mpr ⟨ck_73_0, List.forall_mem_cons.mpr ⟨ck_73_1, fun _ h => absurd h List.not_mem_nil⟩⟩)
theorem cm_73 : mchM 73 = true := by decide +kernel
theorem ck_74_0 : mchR 74 0 64 = true := by decide +kernel
theorem ck_74 : mchA 74 := mchA_of (n := 24) (l := [0]) (by decide +kernel) (by decide) (by decide +kernel) (List.forall_mem_cons.mpr ⟨ck_74_0, fun _ h => absurd h List.not_mem_nil⟩)
theorem cm_74 : mchM 74 = true := by decide +kernel
theorem ck_75_0 : mchR 75 0 64 = true := by decide +kernel
theorem ck_75 : mchA 75 := mchA_of (n := 56) (l := [0]) (by decide +kernel) (by decide) (by decide +kernel) (List.forall_mem_cons.mpr ⟨ck_75_0, fun _ h => absurd h List.not_mem_nil⟩)
theorem cm_75 : mchM 75 = true := by decide +kernel
theorem ck_76_0 : mchR 76 0 64 = true := by decide +kernel
theorem ck_76 : mchA 76 := mchA_of (n := 57) (l := [0]) (by decide +kernel) (by decide) (by decide +kernel) (List.forall_mem_cons.mpr ⟨ck_76_0, fun _ h => absurd h List.not_mem_nil⟩)
theorem cm_76 : mchM 76 = true := by decide +kernel
theorem ck_77_0 : mchR 77 0 64 = true := by decide +kernel
theorem ck_77_1 : mchR 77 64 64 = true := by decide +kernel
theorem ck_77 : mchA 77 := mchA_of (n := 80) (l := [0, 1]) (by decide +kernel) (by decide) (by decide +kernel) (List.forall_mem_cons.mpr ⟨ck_77_0, List.forall_mem_cons.mpr ⟨ck_77_1, fun _ h => absurd h List.not_mem_nil⟩⟩)
theorem cm_77 : mchM 77 = true := by decide +kernel
theorem ck_78_0 : mchR 78 0 64 = true := by decide +kernel
theorem ck_78_1 : mchR 78 64 64 = true := by decide +kernel
theorem ck_78_2 : mchR 78 128 64 = true := by decide +kernel
theorem ck_78_3 : mchR 78 192 64 = true := by decide +kernel
theorem ck_78_4 : mchR 78 256 64 = true := by decide +kernel
theorem ck_78 : mchA 78 := mchA_of (n := 258) (l := [0, 1, 2, 3, 4]) (by decide +kernel) (by decide) (by decide +kernel) (List.forall_mem_cons.mpr ⟨ck_78_0, List.forall_mem_cons.mpr ⟨ck_78_1, List.forall_mem_cons.mpr ⟨ck_78_2, List.forall_mem_cons.mpr ⟨ck_78_3, List.forall_mem_cons.mpr ⟨ck_78_4, fun _ h => absurd h List.not_mem_nil⟩⟩⟩⟩⟩)
theorem cm_78 : mchM 78 = true := by decide +kernel
theorem ck_79_0 : mchR 79 0 64 = true := by decide +kernel
theorem ck_79_1 : mchR 79 64 64 = true := by decide +kernel
theorem ck_79_2 : mchR 79 128 64 = true := by decide +kernel
theorem ck_79_3 : mchR 79 192 64 = true := by decide +kernel
theorem ck_79_4 : mchR 79 256 64 = true := by decide +kernel
theorem ck_79 : mchA 79 := mchA_of (n := 314) (l := [0, 1, 2, 3, 4]) (by decide +kernel) (by decide) (by decide +kernel) (List.forall_mem_cons.mpr ⟨ck_79_0, List.forall_mem_cons.mpr ⟨ck_79_1, List.forall_mem_cons.mpr ⟨ck_79_2, List.forall_mem_cons.mpr ⟨ck_79_3, List.forall_mem_cons.mpr ⟨ck_79_4, fun _ h => absurd h List.not_mem_nil⟩⟩⟩⟩⟩)
theorem cm_79 : mchM 79 = true := by decide +kernel
theorem ck_80_0 : mchR 80 0 64 = true := by decide +kernel
theorem ck_80_1 : mchR 80 64 64 = true := by decide +kernel
theorem ck_80_2 : mchR 80 128 64 = true := by decide +kernel
theorem ck_80 : mchA 80 := mchA_of (n := 192) (l := [0, 1, 2]) (by decide +kernel) (by decide) (by decide +kernel) (List.forall_mem_cons.mpr ⟨ck_80_0, List.forall_mem_cons.mpr ⟨ck_80_1, List.forall_mem_cons.mpr ⟨ck_80_2, fun _ h => absurd h List.not_mem_nil⟩⟩⟩)
theorem cm_80 : mchM 80 = true := by decide +kernel
theorem ck_81_0 : mchR 81 0 64 = true := by decide +kernel
theorem ck_81_1 : mchR 81 64 64 = true := by decide +kernel
theorem ck_81_2 : mchR 81 128 64 = true := by decide +kernel
theorem ck_81 : mchA 81 := mchA_of (n := 136) (l := [0, 1, 2]) (by decide +kernel) (by decide) (by decide +kernel) (List.forall_mem_cons.mpr ⟨ck_81_0, List.forall_mem_cons.mpr ⟨ck_81_1, List.forall_mem_cons.mpr ⟨ck_81_2, fun _ h => absurd h List.not_mem_nil⟩⟩⟩)
theorem cm_81 : mchM 81 = true := by decide +kernel
