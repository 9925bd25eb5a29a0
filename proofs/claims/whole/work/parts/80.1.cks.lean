theorem ck_82_0 : mchR 82 0 64 = true := by decide +kernel
theorem ck_82_1 : mchR 82 64 64 = true := by decide +kernel
theorem ck_82_2 : mchR 82 128 64 = true := by decide +kernel
theorem ck_82_3 : mchR 82 192 64 = true := by decide +kernel
theorem ck_82 : mchA 82 := mchA_of (n := 205) (l := [0, 1, 2, 3]) (by decide +kernel) (by decide) (by decide +kernel) (List.forall_mem_cons.mpr ⟨ck_82_0, List.forall_mem_cons.mpr ⟨ck_82_1, List.forall_mem_cons.mpr ⟨ck_82_2, List.forall_mem_cons.mpr ⟨ck_82_3, fun _ h => absurd h List.not_mem_nil⟩⟩⟩⟩)
theorem cm_82 : mchM 82 = true := by decide +kernel
theorem ck_83_0 : mchR 83 0 64 = true := by decide +kernel
theorem ck_83 : mchA 83 := mchA_of (n := 38) (l := [0]) (by decide +kernel) (by decide) (by decide +kernel) (List.forall_mem_cons.mpr ⟨ck_83_0, fun _ h => absurd h List.not_mem_nil⟩)
theorem cm_83 : mchM 83 = true := by decide +kernel
theorem ck_84_0 : mchR 84 0 64 = true := by decide +kernel
theorem ck_84 : mchA 84 := mchA_of (n := 41) (l := [0]) (by decide +kernel) (by decide) (by decide +kernel) (List.forall_mem_cons.mpr ⟨ck_84_0, fun _ h => absurd h List.not_mem_nil⟩)
theorem cm_84 : mchM 84 = true := by decide +kernel
theorem ck_85_0 : mchR 85 0 64 = true := by decide +kernel
theorem ck_85_1 : mchR 85 64 64 = true := by decide +kernel
theorem ck_85 : mchA 85 := mchA_of (n := 93) (l := [0, 1]) (by decide +kernel) (by decide) (by decide +kernel) (List.forall_mem_cons.mpr ⟨ck_85_0, List.forall_mem_cons.mpr ⟨ck_85_1, fun _ h => absurd h List.not_mem_nil⟩⟩)
theorem cm_85 : mchM 85 = true := by decide +kernel
theorem ck_86_0 : mchR 86 0 64 = true := by decide +kernel
theorem ck_86_1 : mchR 86 64 64 = true := by decide +kernel
theorem ck_86_2 : mchR 86 128 64 = true := by decide +kernel
theorem ck_86 : mchA 86 := mchA_of (n := 167) (l := [0, 1, 2]) (by decide +kernel) (by decide) (by decide +kernel) (List.forall_mem_cons.mpr ⟨ck_86_0, List.forall_mem_cons.mpr ⟨ck_86_1, List.forall_mem_cons.mpr ⟨ck_86_2, fun _ h => absurd h List.not_mem_nil⟩⟩⟩)
theorem cm_86 : mchM 86 = true := by decide +kernel
theorem ck_87_0 : mchR 87 0 64 = true := by decide +kernel
theorem ck_87 : mchA 87 := mchA_of (n := 8) (l := [0]) (by decide +kernel) (by decide) (by decide +kernel) (List.forall_mem_cons.mpr ⟨ck_87_0, fun _ h => absurd h List.not_mem_nil⟩)
theorem cm_87 : mchM 87 = true := by decide +kernel
theorem ck_88_0 : mchR 88 0 64 = true := by decide +kernel
theorem ck_88 : mchA 88 := mchA_of (n := 16) (l := [0]) (by decide +kernel) (by decide) (by decide +kernel) (List.forall_mem_cons.mpr ⟨ck_88_0, fun _ h => absurd h List.not_mem_nil⟩)
theorem cm_88 : mchM 88 = true := by decide +kernel
theorem ck_89_0 : mchR 89 0 64 = true := by decide +kernel
theorem ck_89 : mchA 89 := mchA_of (n := 11) (l := [0]) (by decide +kernel) (by decide) (by decide +kernel) (List.forall_mem_cons.mpr ⟨ck_89_0, fun _ h => absurd h List.not_mem_nil⟩)
theorem cm_89 : mchM 89 = true := by decide +kernel
theorem ck_90_0 : mchR 90 0 64 = true := by decide +kernel
theorem ck_90_1 : mchR 90 64 64 = true := by decide +kernel
theorem ck_90 : mchA 90 := mchA_of (n := 77) (l := [0, 1]) (by decide +kernel) (by decide) (by decide +kernel) (List.forall_mem_cons.mpr ⟨ck_90_0, List.forall_mem_cons.mpr ⟨ck_90_1, fun _ h => absurd h List.not_mem_nil⟩⟩)
theorem cm_90 : mchM 90 = true := by decide +kernel
theorem ck_91_0 : mchR 91 0 64 = true := by decide +kernel
theorem ck_91 : mchA 91 := mchA_of (n := 60) (l := [0]) (by decide +kernel) (by decide) (by decide +kernel) (List.forall_mem_cons.mpr ⟨ck_91_0, fun _ h => absurd h List.not_mem_nil⟩)
theorem cm_91 : mchM 91 = true := by decide +kernel
theorem ck_92_0 : mchR 92 0 64 = true := by decide +kernel
theorem ck_92_1 : mchR 92 64 64 = true := by decide +kernel
theorem ck_92 : mchA 92 := mchA_of (n := 82) (l := [0, 1]) (by decide +kernel) (by decide) (by decide +kernel) (List.forall_mem_cons.mpr ⟨ck_92_0, List.forall_mem_cons.mpr ⟨ck_92_1, fun _ h => absurd h List.not_mem_nil⟩⟩)
theorem cm_92 : mchM 92 = true := by decide +kernel
theorem ck_93_0 : mchR 93 0 64 = true := by decide +kernel
theorem ck_93_1 : mchR 93 64 64 = true := by decide +kernel
theorem ck_93 : mchA 93 := mchA_of (n := 96) (l := [0, 1]) (by decide +kernel) (by decide) (by decide +kernel) (List.forall_mem_cons.mpr ⟨ck_93_0, List.forall_mem_cons.mpr ⟨ck_93_1, fun _ h => absurd h List.not_mem_nil⟩⟩)
theorem cm_93 : mchM 93 = true := by decide +kernel
theorem ck_94_0 : mchR 94 0 64 = true := by decide +kernel
theorem ck_94 : mchA 94 := mchA_of (n := 17) (l := [0]) (by decide +kernel) (by decide) (by decide +kernel) (List.forall_mem_cons.mpr ⟨ck_94_0, fun _ h => absurd h List.not_mem_nil⟩)
theorem cm_94 : mchM 94 = true := by decide +kernel
theorem ck_95_0 : mchR 95 0 64 = true := by decide +kernel
theorem ck_95 : mchA 95 := mchA_of (n := 18) (l := [0]) (by decide +kernel) (by decide) (by decide +kernel) (List.forall_mem_cons.mpr ⟨ck_95_0, fun _ h => absurd h List.not_mem_nil⟩)
theorem cm_95 : mchM 95 = true := by decide +kernel
theorem ck_96_0 : mchR 96 0 64 = true := by decide +kernel
theorem ck_96 : mchA 96 := mchA_of (n := 19) (l := [0]) (by decide +kernel) (by decide) (by decide +kernel) (List.forall_mem_cons.mpr ⟨ck_96_0, fun _ h => absurd h List.not_mem_nil⟩)
theorem cm_96 : mchM 96 = true := by decide +kernel
theorem ck_97_0 : mchR 97 0 64 = true := by decide +kernel
theorem ck_97 : mchA 97 := mchA_of (n := 18) (l := [0]) (by decide +kernel) (by decide) (by decide +kernel) (List.forall_mem_cons.mpr ⟨ck_97_0, fun _ h => absurd h List.not_mem_nil⟩)
theorem cm_97 : mchM 97 = true := by decide +kernel
theorem ck_98_0 : mchR 98 0 64 = true := by decide +kernel
theorem ck_98_1 : mchR 98 64 64 = true := by decide +kernel
theorem ck_98_2 : mchR 98 128 64 = true := by decide +kernel
theorem ck_98 : mchA 98 := mchA_of (n := 184) (l := [0, 1, 2]) (by decide +kernel) (by decide) (by decide +kernel) (List.forall_mem_cons.mpr ⟨ck_98_0, List.forall_mem_cons.mpr ⟨ck_98_1, List.forall_mem_cons.mpr ⟨ck_98_2, fun _ h => absurd h List.not_mem_nil⟩⟩⟩)
theorem cm_98 : mchM 98 = true := by decide +kernel
theorem ck_99_0 : mchR 99 0 64 = true := by decide +kernel
theorem ck_99_1 : mchR 99 64 64 = true := by decide +kernel
theorem ck_99 : mchA 99 := mchA_of (n := 99) (l := [0, 1]) (by decide +kernel) (by decide) (by decide +kernel) (List.forall_mem_cons.mpr ⟨ck_99_0, List.forall_mem_cons.mpr ⟨ck_99_1, fun _ h => absurd h List.not_mem_nil⟩⟩)
theorem cm_99 : mchM 99 = true := by decide +kernel
theorem ck_100_0 : mchR 100 0 64 = true := by decide +kernel
theorem ck_100_1 : mchR 100 64 64 = true := by decide +kernel
theorem ck_100_2 : mchR 100 128 64 = true := by decide +kernel
theorem ck_100 : mchA 100 := mchA_of (n := 186) (l := [0, 1, 2]) (by decide +kernel) (by decide) (by decide +kernel) (List.forall_mem_cons.mpr ⟨ck_100_0, List.forall_mem_cons.mpr ⟨ck_100_1, List.forall_mem_cons.mpr ⟨ck_100_2, fun _ h => absurd h List.not_mem_nil⟩⟩⟩)
theorem cm_100 : mchM 100 = true := by decide +kernel
theorem ck_101_0 : mchR 101 0 64 = true := by decide +kernel
theorem ck_101_1 : mchR 101 64 64 = true := by decide +kernel
theorem ck_101_2 : mchR 101 128 64 = true := by decide +kernel
theorem ck_101 : mchA 101 := mchA_of (n := 142) (l := [0, 1, 2]) (by decide +kernel) (by decide) (by decide +kernel) (List.forall_mem_cons.mpr ⟨ck_101_0, List.forall_mem_cons.mpr ⟨ck_101_1, List.forall_mem_cons.mpr ⟨ck_101_2, fun _ h => absurd h List.not_mem_nil⟩⟩⟩)
theorem cm_101 : mchM 101 = true := by decide +kernel
theorem ck_102_0 : mchR 102 0 64 = true := by decide +kernel
theorem ck_102 : mchA 102 := mchA_of (n := 18) (l := [0]) (by decide +kernel) (by decide) (by decide +kernel) (List.forall_mem_cons.mpr ⟨ck_102_0, fun _ h => absurd h List.not_mem_nil⟩)
theorem cm_102 : mchM 102 = true := by decide +kernel
theorem ck_103_0 : mchR 103 0 64 = true := by decide +kernel
theorem ck_103 : mchA 103 := mchA_of (n := 56) (l := [0]) (by decide +kernel) (by decide) (by decide +kernel) (List.forall_mem_cons.mpr ⟨ck_103_0, fun _ h => absurd h List.not_mem_nil⟩)
theorem cm_103 : mchM 103 = true := by decide +kernel
theorem ck_104_0 : mchR 104 0 64 = true := by decide +kernel
theorem ck_104_1 : mchR 104 64 64 = true := by decide +kernel
theorem ck_104 : mchA 104 := mchA_of (n := 106) (l := [0, 1]) (by decide +kernel) (by decide) (by decide +kernel) (List.forall_mem_cons.mpr ⟨ck_104_0, List.forall_mem_cons.mpr ⟨ck_104_1, fun _ h => absurd h List.not_mem_nil⟩⟩)
theorem cm_104 : mchM 104 = true := by decide +kernel
theorem ck_105_0 : mchR 105 0 64 = true := by decide +kernel
theorem ck_105_1 : mchR 105 64 64 = true := by decide +kernel
theorem ck_105_2 : mchR 105 128 64 = true := by decide +kernel
theorem ck_105 : mchA 105 := mchA_of (n := 134) (l := [0, 1, 2]) (by decide +kernel) (by decide) (by decide +kernel) (List.forall_mem_cons.mpr ⟨ck_105_0, List.forall_mem_cons.mpr ⟨ck_105_1, List.forall_mem_cons.mpr ⟨ck_105_2, fun _ h => absurd h List.not_mem_nil⟩⟩⟩)
theorem cm_105 : mchM 105 = true := by decide +kernel
theorem ck_106_0 : mchR 106 0 64 = true := by decide +kernel
theorem ck_106_1 : mchR 106 64 64 = true := by decide +kernel
theorem ck_106 : mchA 106 := mchA_of (n := 86) (l := [0, 1]) (by decide +kernel) (by decide) (by decide +kernel) (List.forall_mem_cons.mpr ⟨ck_106_0, List.forall_mem_cons.mpr ⟨ck_106_1, fun _ h => absurd h List.not_mem_nil⟩⟩)
theorem cm_106 : mchM 106 = true := by decide +kernel
theorem ck_107_0 : mchR 107 0 64 = true := by decide +kernel
theorem ck_107_1 : mchR 107 64 64 = true := by decide +kernel
theorem ck_107 : mchA 107 := mchA_of (n := 77) (l := [0, 1]) (by decide +kernel) (by decide) (by decide +kernel) (List.forall_mem_cons.mpr ⟨ck_107_0, List.forall_mem_cons.mpr ⟨ck_107_1, fun _ h => absurd h List.not_mem_nil⟩⟩)
theorem cm_107 : mchM 107 = true := by decide +kernel
theorem ck_108_0 : mchR 108 0 64 = true := by decide +kernel
theorem ck_108 : mchA 108 := mchA_of (n := 22) (l := [0]) (by decide +kernel) (by decide) (by decide +kernel) (List.forall_mem_cons.mpr ⟨ck_108_0, fun _ h => absurd h List.not_mem_nil⟩)
theorem cm_108 : mchM 108 = true := by decide +kernel
theorem ck_109_0 : mchR 109 0 64 = true := by decide +kernel
theorem ck_109 : mchA 109 := mchA_of (n := 29) (l := [0]) (by decide +kernel) (by decide) (by decide +kernel) (List.forall_mem_cons.mpr ⟨ck_109_0, fun _ h => absurd h List.not_mem_nil⟩)
theorem cm_109 : mchM 109 = true := by decide +kernel
theorem ck_110_0 : mchR 110 0 64 = true := by decide +kernel
theorem ck_110_1 : mchR 110 64 64 = true := by decide +kernel
theorem ck_110_2 : mchR 110 128 64 = true := by decide +kernel
theorem ck_110_3 : mchR 110 192 64 = true := by decide +kernel
theorem ck_110 : mchA 110 := mchA_of (n := 196) (l := [0, 1, 2, 3]) (by decide +kernel) (by decide) (by decide +kernel) (List.forall_mem_cons.mpr ⟨ck_110_0, List.forall_mem_cons.mpr ⟨ck_110_1, List.forall_mem_cons.mpr ⟨ck_110_2, List.forall_mem_cons.mpr ⟨ck_110_3, fun _ h => absurd h List.not_mem_nil⟩⟩⟩⟩)
theorem cm_110 : mchM 110 = true := by decide +kernel
theorem ck_111_0 : mchR 111 0 64 = true := by decide +kernel
theorem ck_111 : mchA 111 := mchA_of (n := 41) (l := [0]) (by decide +kernel) (by decide) (by decide +kernel) (List.forall_mem_cons.mpr ⟨ck_111_0, fun _ h => absurd h List.not_mem_nil⟩)
theorem cm_111 : mchM 111 = true := by decide +kernel
theorem ck_112_0 : mchR 112 0 64 = true := by decide +kernel
theorem ck_112 : mchA 112 := mchA_of (n := 37) (l := [0]) (by decide +kernel) (by decide) (by decide +kernel) (List.forall_mem_cons.mpr ⟨ck_112_0, fun _ h => absurd h List.not_mem_nil⟩)
theorem cm_112 : mchM 112 = true := by decide +kernel
theorem ck_113_0 : mchR 113 0 64 = true := by decide +kernel
theorem ck_113_1 : mchR 113 64 64 = true := by decide +kernel
theorem ck_113 : mchA 113 := mchA_of (n := 97) (l := [0, 1]) (by decide +kernel) (by decide) (by decide +kernel) (List.forall_mem_cons.mpr ⟨ck_113_0, List.forall_mem_cons.mpr ⟨ck_113_1, fun _ h => absurd h List.not_mem_nil⟩⟩)
theorem cm_113 : mchM 113 = true := by decide +kernel
theorem ck_114_0 : mchR 114 0 64 = true := by decide +kernel
theorem ck_114_1 : mchR 114 64 64 = true := by decide +kernel
theorem ck_114_2 : mchR 114 128 64 = true := by decide +kernel
theorem ck_114_3 : mchR 114 192 64 = true := by decide +kernel
theorem ck_114 : mchA 114 := mchA_of (n := 223) (l := [0, 1, 2, 3]) (by decide +kernel) (by decide) (by decide +kernel) (List.forall_mem_cons.mpr ⟨ck_114_0, List.forall_mem_cons.mpr ⟨ck_114_1, List.forall_mem_cons.mpr ⟨ck_114_2, List.forall_mem_cons.mpr ⟨ck_114_3, fun _ h => absurd h List.not_mem_nil⟩⟩⟩⟩)
theorem cm_114 : mchM 114 = true := by decide +kernel
theorem ck_115_0 : mchR 115 0 64 = true := by decide +kernel
theorem ck_115_1 : mchR 115 64 64 = true := by decide +kernel
theorem ck_115_2 : mchR 115 128 64 = true := by decide +kernel
theorem ck_115 : mchA 115 := mchA_of (n := 156) (l := [0, 1, 2]) (by decide +kernel) (by decide) (by decide +kernel) (List.forall_mem_cons.mpr ⟨ck_115_0, List.forall_mem_cons.mpr ⟨ck_115_1, List.forall_mem_cons.mpr ⟨ck_115_2, fun _ h => absurd h List.not_mem_nil⟩⟩⟩)
theorem cm_115 : mchM 115 = true := by decide +kernel
theorem ck_116_0 : mchR 116 0 64 = true := by decide +kernel
theorem ck_116_1 : mchR 116 64 64 = true := by decide +kernel
theorem ck_116 : mchA 116 := mchA_of (n := 65) (l := [0, 1]) (by decide +kernel) (by decide) (by decide +kernel) (List.forall_mem_cons.mpr ⟨ck_116_0, List.forall_mem_cons.mpr ⟨ck_116_1, fun _ h => absurd h List.not_mem_nil⟩⟩)
theorem cm_116 : mchM 116 = true := by decide +kernel
theorem ck_117_0 : mchR 117 0 64 = true := by decide +kernel
theorem ck_117_1 : mchR 117 64 64 = true := by decide +kernel
theorem ck_117 : mchA 117 := mchA_of (n := 65) (l := [0, 1]) (by decide +kernel) (by decide) (by decide +kernel) (List.forall_mem_cons.mpr ⟨ck_117_0, List.forall_mem_cons.mpr ⟨ck_117_1, fun _ h => absurd h List.not_mem_nil⟩⟩)
theorem cm_117 : mchM 117 = true := by decide +kernel
theorem ck_118_0 : mchR 118 0 64 = true := by decide +kernel
theorem ck_118 : mchA 118 := mchA_of (n := 23) (l := [0]) (by decide +kernel) (by decide) (by decide +kernel) (List.forall_mem_cons.mpr ⟨ck_118_0, fun _ h => absurd h List.not_mem_nil⟩)
theorem cm_118 : mchM 118 = true := by decide +kernel
theorem ck_119_0 : mchR 119 0 64 = true := by decide +kernel
theorem ck_119_1 : mchR 119 64 64 = true := by decide +kernel
theorem ck_119 : mchA 119 := mchA_of (n := 80) (l := [0, 1]) (by decide +kernel) (by decide) (by decide +kernel) (List.forall_mem_cons.mpr ⟨ck_119_0, List.forall_mem_cons.mpr ⟨ck_119_1, fun _ h => absurd h List.not_mem_nil⟩⟩)
theorem cm_119 : mchM 119 = true := by decide +kernel
theorem ck_120_0 : mchR 120 0 64 = true := by decide +kernel
theorem ck_120 : mchA 120 := mchA_of (n := 22) (l := [0]) (by decide +kernel) (by decide) (by decide +kernel) (List.forall_mem_cons.mpr ⟨ck_120_0, fun _ h => absurd h List.not_mem_nil⟩)
theorem cm_120 : mchM 120 = true := by decide +kernel
theorem ck_121_0 : mchR 121 0 64 = true := by decide +kernel
theorem ck_121_1 : mchR 121 64 64 = true := by decide +kernel
theorem ck_121_2 : mchR 121 128 64 = true := by decide +kernel
theorem ck_121_3 : mchR 121 192 64 = true := by decide +kernel
theorem ck_121 : mchA 121 := mchA_of (n := 235) (l := [0, 1, 2, 3]) (by decide +kernel) (by decide) (by decide +kernel) (List.forall_mem_cons.mpr ⟨ck_121_0, List.forall_mem_cons.mpr ⟨ck_121_1, List.forall_mem_cons.mpr ⟨ck_121_2, List.forall_mem_cons.mpr ⟨ck_121_3, fun _ h => absurd h List.not_mem_nil⟩⟩⟩⟩)
theorem cm_121 : mchM 121 = true := by decide +kernel
theorem ck_122_0 : mchR 122 0 64 = true := by decide +kernel
theorem ck_122_1 : mchR 122 64 64 = true := by decide +kernel
theorem ck_122 : mchA 122 := mchA_of (n := 66) (l := [0, 1]) (by decide +kernel) (by decide) (by decide +kernel) (List.forall_mem_cons.mpr ⟨ck_122_0, List.forall_mem_cons.mpr ⟨ck_122_1, fun _ h => absurd h List.not_mem_nil⟩⟩)
theorem cm_122 : mchM 122 = true := by decide +kernel
theorem ck_123_0 : mchR 123 0 64 = true := by decide +kernel
theorem ck_123_1 : mchR 123 64 64 = true := by decide +kernel
theorem ck_123_2 : mchR 123 128 64 = true := by decide +kernel
theorem ck_123_3 : mchR 123 192 64 = true := by decide +kernel
theorem ck_123_4 : mchR 123 256 64 = true := by decide +kernel
theorem ck_123 : mchA 123 := mchA_of (n := 314) (l := [0, 1, 2, 3, 4]) (by decide +kernel) (by decide) (by decide +kernel) (List.forall_mem_cons.mpr ⟨ck_123_0, List.forall_mem_cons.mpr ⟨ck_123_1, List.forall_mem_cons.mpr ⟨ck_123_2, List.forall_mem_cons.mpr ⟨ck_123_3, List.forall_mem_cons.mpr ⟨ck_123_4, fun _ h => absurd h List.not_mem_nil⟩⟩⟩⟩⟩)
theorem cm_123 : mchM 123 = true := by decide +kernel
theorem ck_124_0 : mchR 124 0 64 = true := by decide +kernel
theorem ck_124_1 : mchR 124 64 64 = true := by decide +kernel
theorem ck_124_2 : mchR 124 128 64 = true := by decide +kernel
theorem ck_124_3 : mchR 124 192 64 = true := by decide +kernel
theorem ck_124_4 : mchR 124 256 64 = true := by decide +kernel
theorem ck_124_5 : mchR 124 320 64 = true := by decide +kernel
theorem ck_124 : mchA 124 := mchA_of (n := 330) (l := [0, 1, 2, 3, 4, 5]) (by decide +kernel) (by decide) (by decide +kernel) (List.forall_mem_cons.mpr ⟨ck_124_0, List.forall_mem_cons.mpr ⟨ck_124_1, List.forall_mem_cons.mpr ⟨ck_124_2, List.forall_mem_cons.mpr ⟨ck_124_3, List.forall_mem_cons.mpr ⟨ck_124_4, List.forall_mem_cons.mpr ⟨ck_124_5, fun _ h => absurd h List.not_mem_nil⟩⟩⟩⟩⟩⟩)
theorem cm_124 : mchM 124 = true := by decide +kernel
theorem ck_125_0 : mchR 125 0 64 = true := by decide +kernel
theorem ck_125_1 : mchR 125 64 64 = true := by decide +kernel
theorem ck_125 : mchA 125 := mchA_of (n := 98) (l := [0, 1]) (by decide +kernel) (by decide) (by decide +kernel) (List.forall_mem_cons.mpr ⟨ck_125_0, List.forall_mem_cons.mpr ⟨ck_125_1, fun _ h => absurd h List.not_mem_nil⟩⟩)
theorem cm_125 : mchM 125 = true := by decide +kernel
theorem ck_126_0 : mchR 126 0 64 = true := by decide +kernel
theorem ck_126_1 : mchR 126 64 64 = true := by decide +kernel
theorem ck_126_2 : mchR 126 128 64 = true := by decide +kernel
theorem ck_126_3 : mchR 126 192 64 = true := by decide +kernel
theorem ck_126_4 : mchR 126 256 64 = true := by decide +kernel
theorem ck_126_5 : mchR 126 320 64 = true := by decide +kernel
theorem ck_126 : mchA 126 := mchA_of (n := 356) (l := [0, 1, 2, 3, 4, 5]) (by decide +kernel) (by decide) (by decide +kernel) (List.forall_mem_cons.mpr ⟨ck_126_0, List.forall_mem_cons.mpr ⟨ck_126_1, List.forall_mem_cons.mpr ⟨ck_126_2, List.forall_mem_cons.mpr ⟨ck_126_3, List.forall_mem_cons.mpr ⟨ck_126_4, List.forall_mem_cons.mpr ⟨ck_126_5, fun _ h => absurd h List.not_mem_nil⟩⟩⟩⟩⟩⟩)
theorem cm_126 : mchM 126 = true := by decide +kernel
theorem ck_127_0 : mchR 127 0 64 = true := by decide +kernel
theorem ck_127_1 : mchR 127 64 64 = true := by decide +kernel
theorem ck_127_2 : mchR 127 128 64 = true := by decide +kernel
theorem ck_127_3 : mchR 127 192 64 = true := by decide +kernel
theorem ck_127 : mchA 127 := mchA_of (n := 229) (l := [0, 1, 2, 3]) (by decide +kernel) (by decide) (by decide +kernel) (List.forall_mem_cons.mpr ⟨ck_127_0, List.forall_mem_cons.mpr ⟨ck_127_1, List.forall_mem_cons.mpr ⟨ck_127_2, List.forall_mem_cons.mpr ⟨ck_127_3, fun _ h => absurd h List.not_mem_nil⟩⟩⟩⟩)
theorem cm_127 : mchM 127 = true := by decide +kernel
theorem ck_128_0 : mchR 128 0 64 = true := by decide +kernel
theorem ck_128_1 : mchR 128 64 64 = true := by decide +kernel
theorem ck_128_2 : mchR 128 128 64 = true := by decide +kernel
theorem ck_128 : mchA 128 := mchA_of (n := 153) (l := [0, 1, 2]) (by decide +kernel) (by decide) (by decide +kernel) (List.forall_mem_cons.mpr ⟨ck_128_0, List.forall_mem_cons.mpr ⟨ck_128_1, List.forall_mem_cons.mpr ⟨ck_128_2, fun _ h => absurd h List.not_mem_nil⟩⟩⟩)
theorem cm_128 : mchM 128 = true := by decide +kernel
theorem ck_129_0 : mchR 129 0 64 = true := by decide +kernel
theorem ck_129_1 : mchR 129 64 64 = true := by decide +kernel
theorem ck_129_2 : mchR 129 128 64 = true := by decide +kernel
theorem ck_129_3 : mchR 129 192 64 = true := by decide +kernel
theorem ck_129 : mchA 129 := mchA_of (n := 251) (l := [0, 1, 2, 3]) (by decide +kernel) (by decide) (by decide +kernel) (List.forall_mem_cons.mpr ⟨ck_129_0, List.forall_mem_cons.mpr ⟨ck_129_1, List.forall_mem_cons.mpr ⟨ck_129_2, List.forall_mem_cons.mpr ⟨ck_129_3, fun _ h => absurd h List.not_mem_nil⟩⟩⟩⟩)
theorem cm_129 : mchM 129 = true := by decide +kernel
theorem ck_130_0 : mchR 130 0 64 = true := by decide +kernel
theorem ck_130_1 : mchR 130 64 64 = true := by decide +kernel
theorem ck_130_2 : mchR 130 128 64 = true := by decide +kernel
theorem ck_130 : mchA 130 := mchA_of (n := 163) (l := [0, 1, 2]) (by decide +kernel) (by decide) (by decide +kernel) (List.forall_mem_cons.mpr ⟨ck_130_0, List.forall_mem_cons.mpr ⟨ck_130_1, List.forall_mem_cons.mpr ⟨ck_130_2, fun _ h => absurd h List.not_mem_nil⟩⟩⟩)
theorem cm_130 : mchM 130 = true := by decide +kernel
theorem ck_131_0 : mchR 131 0 64 = true := by decide +kernel
theorem ck_131 : mchA 131 := mchA_of (n := 5) (l := [0]) (by decide +kernel) (by decide) (by decide +kernel) (List.forall_mem_cons.mpr ⟨ck_131_0, fun _ h => absurd h List.not_mem_nil⟩)
theorem cm_131 : mchM 131 = true := by decide +kernel
theorem ck_132_0 : mchR 132 0 64 = true := by decide +kernel
theorem ck_132 : mchA 132 := mchA_of (n := 39) (l := [0]) (by decide +kernel) (by decide) (by decide +kernel) (List.forall_mem_cons.mpr ⟨ck_132_0, fun _ h => absurd h List.not_mem_nil⟩)
theorem cm_132 : mchM 132 = true := by decide +kernel
theorem ck_133_0 : mchR 133 0 64 = true := by decide +kernel
theorem ck_133 : mchA 133 := mchA_of (n := 17) (l := [0]) (by decide +kernel) (by decide) (by decide +kernel) (List.forall_mem_cons.mpr ⟨ck_133_0, fun _ h => absurd h List.not_mem_nil⟩)
theorem cm_133 : mchM 133 = true := by decide +kernel
theorem ck_134_0 : mchR 134 0 64 = true := by decide +kernel
theorem ck_134 : mchA 134 := mchA_of (n := 45) (l := [0]) (by decide +kernel) (by decide) (by decide +kernel) (List.forall_mem_cons.mpr ⟨ck_134_0, fun _ h => absurd h List.not_mem_nil⟩)
theorem cm_134 : mchM 134 = true := by decide +kernel
theorem ck_135_0 : mchR 135 0 64 = true := by decide +kernel
theorem ck_135_1 : mchR 135 64 64 = true := by decide +kernel
theorem ck_135 : mchA 135 := mchA_of (n := 118) (l := [0, 1]) (by decide +kernel) (by decide) (by decide +kernel) (List.forall_mem_cons.mpr ⟨ck_135_0, List.forall_mem_cons.mpr ⟨ck_135_1, fun _ h => absurd h List.not_mem_nil⟩⟩)
theorem cm_135 : mchM 135 = true := by decide +kernel
theorem ck_136_0 : mchR 136 0 64 = true := by decide +kernel
theorem ck_136 : mchA 136 := mchA_of (n := 17) (l := [0]) (by decide +kernel) (by decide) (by decide +kernel) (List.forall_mem_cons.mpr ⟨ck_136_0, fun _ h => absurd h List.not_mem_nil⟩)
theorem cm_136 : mchM 136 = true := by decide +kernel
theorem ck_137_0 : mchR 137 0 64 = true := by decide +kernel
theorem ck_137_1 : mchR 137 64 64 = true := by decide +kernel
theorem ck_137 : mchA 137 := mchA_of (n := 88) (l := [0, 1]) (by decide +kernel) (by decide) (by decide +kernel) (List.forall_mem_cons.mpr ⟨ck_137_0, List.forall_mem_cons.mpr ⟨ck_137_1, fun _ h => absurd h List.not_mem_nil⟩⟩)
theorem cm_137 : mchM 137 = true := by decide +kernel
theorem ck_138_0 : mchR 138 0 64 = true := by decide +kernel
theorem ck_138 : mchA 138 := mchA_of (n := 18) (l := [0]) (by decide +kernel) (by decide) (by decide +kernel) (List.forall_mem_cons.mpr ⟨ck_138_0, fun _ h => absurd h List.not_mem_nil⟩)
theorem cm_138 : mchM 138 = true := by decide +kernel
theorem ck_139_0 : mchR 139 0 64 = true := by decide +kernel
theorem ck_139 : mchA 139 := mchA_of (n := 12) (l := [0]) (by decide +kernel) (by decide) (by decide +kernel) (List.forall_mem_cons.mpr ⟨ck_139_0, fun _ h => absurd h List.not_mem_nil⟩)
theorem cm_139 : mchM 139 = true := by decide +kernel
theorem ck_140_0 : mchR 140 0 64 = true := by decide +kernel
theorem ck_140 : mchA 140 := mchA_of (n := 12) (l := [0]) (by decide +kernel) (by decide) (by decide +kernel) (List.forall_mem_cons.mpr ⟨ck_140_0, fun _ h => absurd h List.not_mem_nil⟩)
theorem cm_140 : mchM 140 = true := by decide +kernel
