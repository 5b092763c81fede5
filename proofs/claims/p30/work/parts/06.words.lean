theorem fl_7_18 : FL RX7 18 7 0 := ⟨RX7, TX7, 3, rfl, by decide, uw_7, (mw 43 (by decide +kernel) (by decide +kernel))⟩
theorem pl_7_18 : PL RX7 18 7 0 .int := ⟨RX7, TX7, 3, tyX7, rfl, by decide, uw_7, (mw 43 (by decide +kernel) (by decide +kernel)), tyX7_ok, nmX7, rfl, (by decide +kernel)⟩
theorem fl_6_49 : FL RX6 49 7 0 := ⟨RX7, TX7, 3, rfl, by decide, uw_7, (mw 44 (by decide +kernel) (by decide +kernel))⟩
theorem pl_6_49 : PL RX6 49 7 0 .int := ⟨RX7, TX7, 3, tyX7, rfl, by decide, uw_7, (mw 44 (by decide +kernel) (by decide +kernel)), tyX7_ok, nmX7, rfl, (by decide +kernel)⟩
theorem fl_10_83 : FL RX10 83 7 0 := ⟨RX7, TX7, 3, rfl, by decide, uw_7, (mw 45 (by decide +kernel) (by decide +kernel))⟩
theorem pl_10_83 : PL RX10 83 7 0 .int := ⟨RX7, TX7, 3, tyX7, rfl, by decide, uw_7, (mw 45 (by decide +kernel) (by decide +kernel)), tyX7_ok, nmX7, rfl, (by decide +kernel)⟩
theorem fl_7_9 : FL RX7 9 7 1 := ⟨RX7, TX7, 3, rfl, by decide, uw_7, (mw 46 (by decide +kernel) (by decide +kernel))⟩
theorem fl_7_15 : FL RX7 15 7 2 := ⟨RX7, TX7, 3, rfl, by decide, uw_7, (mw 47 (by decide +kernel) (by decide +kernel))⟩
theorem fl_0_9 : FL RX0 9 0 0 := ⟨RX0, TX0, 2, rfl, by decide, uw_0, (mw 62 (by decide +kernel) (by decide +kernel))⟩
theorem fl_10_109 : FL RX10 109 0 0 := ⟨RX0, TX0, 2, rfl, by decide, uw_0, (mw 63 (by decide +kernel) (by decide +kernel))⟩
theorem fl_0_15 : FL RX0 15 0 1 := ⟨RX0, TX0, 2, rfl, by decide, uw_0, (mw 64 (by decide +kernel) (by decide +kernel))⟩
theorem fl_10_114 : FL RX10 114 0 1 := ⟨RX0, TX0, 2, rfl, by decide, uw_0, (mw 65 (by decide +kernel) (by decide +kernel))⟩
theorem fl_1_18 : FL RX1 18 1 0 := ⟨RX1, TX1, 3, rfl, by decide, uw_1, (mw 77 (by decide +kernel) (by decide +kernel))⟩
theorem pl_1_18 : PL RX1 18 1 0 .int := ⟨RX1, TX1, 3, tyX1, rfl, by decide, uw_1, (mw 77 (by decide +kernel) (by decide +kernel)), tyX1_ok, nmX1, rfl, (by decide +kernel)⟩
theorem fl_9_38 : FL RX9 38 1 0 := ⟨RX1, TX1, 3, rfl, by decide, uw_1, (mw 78 (by decide +kernel) (by decide +kernel))⟩
theorem pl_9_38 : PL RX9 38 1 0 .int := ⟨RX1, TX1, 3, tyX1, rfl, by decide, uw_1, (mw 78 (by decide +kernel) (by decide +kernel)), tyX1_ok, nmX1, rfl, (by decide +kernel)⟩
theorem fl_5_34 : FL RX5 34 1 0 := ⟨RX1, TX1, 3, rfl, by decide, uw_1, (mw 79 (by decide +kernel) (by decide +kernel))⟩
theorem pl_5_34 : PL RX5 34 1 0 .int := ⟨RX1, TX1, 3, tyX1, rfl, by decide, uw_1, (mw 79 (by decide +kernel) (by decide +kernel)), tyX1_ok, nmX1, rfl, (by decide +kernel)⟩
theorem fl_10_134 : FL RX10 134 1 0 := ⟨RX1, TX1, 3, rfl, by decide, uw_1, (mw 80 (by decide +kernel) (by decide +kernel))⟩
theorem pl_10_134 : PL RX10 134 1 0 .int := ⟨RX1, TX1, 3, tyX1, rfl, by decide, uw_1, (mw 80 (by decide +kernel) (by decide +kernel)), tyX1_ok, nmX1, rfl, (by decide +kernel)⟩
theorem fl_6_90 : FL RX6 90 1 0 := ⟨RX1, TX1, 3, rfl, by decide, uw_1, (mw 81 (by decide +kernel) (by decide +kernel))⟩
theorem pl_6_90 : PL RX6 90 1 0 .int := ⟨RX1, TX1, 3, tyX1, rfl, by decide, uw_1, (mw 81 (by decide +kernel) (by decide +kernel)), tyX1_ok, nmX1, rfl, (by decide +kernel)⟩
theorem fl_1_9 : FL RX1 9 1 1 := ⟨RX1, TX1, 3, rfl, by decide, uw_1, (mw 82 (by decide +kernel) (by decide +kernel))⟩
theorem fl_5_37 : FL RX5 37 1 1 := ⟨RX1, TX1, 3, rfl, by decide, uw_1, (mw 83 (by decide +kernel) (by decide +kernel))⟩
theorem fl_6_95 : FL RX6 95 1 1 := ⟨RX1, TX1, 3, rfl, by decide, uw_1, (mw 84 (by decide +kernel) (by decide +kernel))⟩
theorem fl_10_185 : FL RX10 185 1 1 := ⟨RX1, TX1, 3, rfl, by decide, uw_1, (mw 85 (by decide +kernel) (by decide +kernel))⟩
theorem fl_1_15 : FL RX1 15 1 2 := ⟨RX1, TX1, 3, rfl, by decide, uw_1, (mw 86 (by decide +kernel) (by decide +kernel))⟩
theorem fl_6_124 : FL RX6 124 1 2 := ⟨RX1, TX1, 3, rfl, by decide, uw_1, (mw 87 (by decide +kernel) (by decide +kernel))⟩
theorem fl_10_182 : FL RX10 182 1 2 := ⟨RX1, TX1, 3, rfl, by decide, uw_1, (mw 88 (by decide +kernel) (by decide +kernel))⟩
theorem fl_4_9 : FL RX4 9 4 0 := ⟨RX4, TX4, 9, rfl, by decide, uw_4, (mw 102 (by decide +kernel) (by decide +kernel))⟩
theorem fl_3_35 : FL RX3 35 4 0 := ⟨RX4, TX4, 9, rfl, by decide, uw_4, (mw 103 (by decide +kernel) (by decide +kernel))⟩
theorem fl_6_79 : FL RX6 79 4 0 := ⟨RX4, TX4, 9, rfl, by decide, uw_4, (mw 104 (by decide +kernel) (by decide +kernel))⟩
theorem fl_10_188 : FL RX10 188 4 0 := ⟨RX4, TX4, 9, rfl, by decide, uw_4, (mw 105 (by decide +kernel) (by decide +kernel))⟩
theorem fl_4_22 : FL RX4 22 4 1 := ⟨RX4, TX4, 9, rfl, by decide, uw_4, (mw 106 (by decide +kernel) (by decide +kernel))⟩
theorem pl_4_22 : PL RX4 22 4 1 .int := ⟨RX4, TX4, 9, tyX4, rfl, by decide, uw_4, (mw 106 (by decide +kernel) (by decide +kernel)), tyX4_ok, nmX4, rfl, (by decide +kernel)⟩
theorem fl_3_40 : FL RX3 40 4 1 := ⟨RX4, TX4, 9, rfl, by decide, uw_4, (mw 107 (by decide +kernel) (by decide +kernel))⟩
theorem pl_3_40 : PL RX3 40 4 1 .int := ⟨RX4, TX4, 9, tyX4, rfl, by decide, uw_4, (mw 107 (by decide +kernel) (by decide +kernel)), tyX4_ok, nmX4, rfl, (by decide +kernel)⟩
theorem fl_6_101 : FL RX6 101 4 1 := ⟨RX4, TX4, 9, rfl, by decide, uw_4, (mw 108 (by decide +kernel) (by decide +kernel))⟩
theorem pl_6_101 : PL RX6 101 4 1 .int := ⟨RX4, TX4, 9, tyX4, rfl, by decide, uw_4, (mw 108 (by decide +kernel) (by decide +kernel)), tyX4_ok, nmX4, rfl, (by decide +kernel)⟩
theorem fl_10_191 : FL RX10 191 4 1 := ⟨RX4, TX4, 9, rfl, by decide, uw_4, (mw 109 (by decide +kernel) (by decide +kernel))⟩
theorem pl_10_191 : PL RX10 191 4 1 .int := ⟨RX4, TX4, 9, tyX4, rfl, by decide, uw_4, (mw 109 (by decide +kernel) (by decide +kernel)), tyX4_ok, nmX4, rfl, (by decide +kernel)⟩
theorem fl_4_26 : FL RX4 26 4 2 := ⟨RX4, TX4, 9, rfl, by decide, uw_4, (mw 110 (by decide +kernel) (by decide +kernel))⟩
theorem pl_4_26 : PL RX4 26 4 2 .int := ⟨RX4, TX4, 9, tyX4, rfl, by decide, uw_4, (mw 110 (by decide +kernel) (by decide +kernel)), tyX4_ok, nmX4, rfl, (by decide +kernel)⟩
theorem fl_6_114 : FL RX6 114 4 2 := ⟨RX4, TX4, 9, rfl, by decide, uw_4, (mw 111 (by decide +kernel) (by decide +kernel))⟩
theorem pl_6_114 : PL RX6 114 4 2 .int := ⟨RX4, TX4, 9, tyX4, rfl, by decide, uw_4, (mw 111 (by decide +kernel) (by decide +kernel)), tyX4_ok, nmX4, rfl, (by decide +kernel)⟩
theorem fl_10_194 : FL RX10 194 4 2 := ⟨RX4, TX4, 9, rfl, by decide, uw_4, (mw 112 (by decide +kernel) (by decide +kernel))⟩
theorem pl_10_194 : PL RX10 194 4 2 .int := ⟨RX4, TX4, 9, tyX4, rfl, by decide, uw_4, (mw 112 (by decide +kernel) (by decide +kernel)), tyX4_ok, nmX4, rfl, (by decide +kernel)⟩
theorem fl_4_29 : FL RX4 29 4 3 := ⟨RX4, TX4, 9, rfl, by decide, uw_4, (mw 113 (by decide +kernel) (by decide +kernel))⟩
theorem pl_4_29 : PL RX4 29 4 3 .int := ⟨RX4, TX4, 9, tyX4, rfl, by decide, uw_4, (mw 113 (by decide +kernel) (by decide +kernel)), tyX4_ok, nmX4, rfl, (by decide +kernel)⟩
theorem fl_10_197 : FL RX10 197 4 3 := ⟨RX4, TX4, 9, rfl, by decide, uw_4, (mw 114 (by decide +kernel) (by decide +kernel))⟩
theorem pl_10_197 : PL RX10 197 4 3 .int := ⟨RX4, TX4, 9, tyX4, rfl, by decide, uw_4, (mw 114 (by decide +kernel) (by decide +kernel)), tyX4_ok, nmX4, rfl, (by decide +kernel)⟩
theorem fl_4_32 : FL RX4 32 4 4 := ⟨RX4, TX4, 9, rfl, by decide, uw_4, (mw 115 (by decide +kernel) (by decide +kernel))⟩
theorem pl_4_32 : PL RX4 32 4 4 .int := ⟨RX4, TX4, 9, tyX4, rfl, by decide, uw_4, (mw 115 (by decide +kernel) (by decide +kernel)), tyX4_ok, nmX4, rfl, (by decide +kernel)⟩
theorem fl_6_117 : FL RX6 117 4 4 := ⟨RX4, TX4, 9, rfl, by decide, uw_4, (mw 116 (by decide +kernel) (by decide +kernel))⟩
theorem pl_6_117 : PL RX6 117 4 4 .int := ⟨RX4, TX4, 9, tyX4, rfl, by decide, uw_4, (mw 116 (by decide +kernel) (by decide +kernel)), tyX4_ok, nmX4, rfl, (by decide +kernel)⟩
theorem fl_10_200 : FL RX10 200 4 4 := ⟨RX4, TX4, 9, rfl, by decide, uw_4, (mw 117 (by decide +kernel) (by decide +kernel))⟩
theorem pl_10_200 : PL RX10 200 4 4 .int := ⟨RX4, TX4, 9, tyX4, rfl, by decide, uw_4, (mw 117 (by decide +kernel) (by decide +kernel)), tyX4_ok, nmX4, rfl, (by decide +kernel)⟩
theorem fl_4_35 : FL RX4 35 4 5 := ⟨RX4, TX4, 9, rfl, by decide, uw_4, (mw 118 (by decide +kernel) (by decide +kernel))⟩
theorem pl_4_35 : PL RX4 35 4 5 .int := ⟨RX4, TX4, 9, tyX4, rfl, by decide, uw_4, (mw 118 (by decide +kernel) (by decide +kernel)), tyX4_ok, nmX4, rfl, (by decide +kernel)⟩
theorem fl_6_98 : FL RX6 98 4 5 := ⟨RX4, TX4, 9, rfl, by decide, uw_4, (mw 119 (by decide +kernel) (by decide +kernel))⟩
theorem pl_6_98 : PL RX6 98 4 5 .int := ⟨RX4, TX4, 9, tyX4, rfl, by decide, uw_4, (mw 119 (by decide +kernel) (by decide +kernel)), tyX4_ok, nmX4, rfl, (by decide +kernel)⟩
theorem fl_10_203 : FL RX10 203 4 5 := ⟨RX4, TX4, 9, rfl, by decide, uw_4, (mw 120 (by decide +kernel) (by decide +kernel))⟩
theorem pl_10_203 : PL RX10 203 4 5 .int := ⟨RX4, TX4, 9, tyX4, rfl, by decide, uw_4, (mw 120 (by decide +kernel) (by decide +kernel)), tyX4_ok, nmX4, rfl, (by decide +kernel)⟩
theorem fl_4_38 : FL RX4 38 4 6 := ⟨RX4, TX4, 9, rfl, by decide, uw_4, (mw 121 (by decide +kernel) (by decide +kernel))⟩
theorem pl_4_38 : PL RX4 38 4 6 .int := ⟨RX4, TX4, 9, tyX4, rfl, by decide, uw_4, (mw 121 (by decide +kernel) (by decide +kernel)), tyX4_ok, nmX4, rfl, (by decide +kernel)⟩
theorem fl_10_206 : FL RX10 206 4 6 := ⟨RX4, TX4, 9, rfl, by decide, uw_4, (mw 122 (by decide +kernel) (by decide +kernel))⟩
theorem pl_10_206 : PL RX10 206 4 6 .int := ⟨RX4, TX4, 9, tyX4, rfl, by decide, uw_4, (mw 122 (by decide +kernel) (by decide +kernel)), tyX4_ok, nmX4, rfl, (by decide +kernel)⟩
theorem fl_4_15 : FL RX4 15 4 7 := ⟨RX4, TX4, 9, rfl, by decide, uw_4, (mw 123 (by decide +kernel) (by decide +kernel))⟩
theorem fl_10_209 : FL RX10 209 4 7 := ⟨RX4, TX4, 9, rfl, by decide, uw_4, (mw 124 (by decide +kernel) (by decide +kernel))⟩
theorem fl_4_41 : FL RX4 41 4 8 := ⟨RX4, TX4, 9, rfl, by decide, uw_4, (mw 125 (by decide +kernel) (by decide +kernel))⟩
theorem pl_4_41 : PL RX4 41 4 8 .boolean := ⟨RX4, TX4, 9, tyX4, rfl, by decide, uw_4, (mw 125 (by decide +kernel) (by decide +kernel)), tyX4_ok, nmX4, rfl, (by decide +kernel)⟩
theorem fl_10_167 : FL RX10 167 4 8 := ⟨RX4, TX4, 9, rfl, by decide, uw_4, (mw 126 (by decide +kernel) (by decide +kernel))⟩
theorem pl_10_167 : PL RX10 167 4 8 .boolean := ⟨RX4, TX4, 9, tyX4, rfl, by decide, uw_4, (mw 126 (by decide +kernel) (by decide +kernel)), tyX4_ok, nmX4, rfl, (by decide +kernel)⟩
theorem fl_3_15 : FL RX3 15 6 0 := ⟨RX6, TX6, 7, rfl, by decide, uw_6, (mw 146 (by decide +kernel) (by decide +kernel))⟩
theorem pl_3_15 : PL RX3 15 6 0 .int := ⟨RX6, TX6, 7, tyX6, rfl, by decide, uw_6, (mw 146 (by decide +kernel) (by decide +kernel)), tyX6_ok, nmX6, rfl, (by decide +kernel)⟩
theorem fl_6_39 : FL RX6 39 6 0 := ⟨RX6, TX6, 7, rfl, by decide, uw_6, (mw 147 (by decide +kernel) (by decide +kernel))⟩
theorem pl_6_39 : PL RX6 39 6 0 .int := ⟨RX6, TX6, 7, tyX6, rfl, by decide, uw_6, (mw 147 (by decide +kernel) (by decide +kernel)), tyX6_ok, nmX6, rfl, (by decide +kernel)⟩
theorem fl_10_67 : FL RX10 67 6 0 := ⟨RX6, TX6, 7, rfl, by decide, uw_6, (mw 148 (by decide +kernel) (by decide +kernel))⟩
theorem pl_10_67 : PL RX10 67 6 0 .int := ⟨RX6, TX6, 7, tyX6, rfl, by decide, uw_6, (mw 148 (by decide +kernel) (by decide +kernel)), tyX6_ok, nmX6, rfl, (by decide +kernel)⟩
theorem fl_6_43 : FL RX6 43 6 1 := ⟨RX6, TX6, 7, rfl, by decide, uw_6, (mw 149 (by decide +kernel) (by decide +kernel))⟩
theorem pl_6_43 : PL RX6 43 6 1 .int := ⟨RX6, TX6, 7, tyX6, rfl, by decide, uw_6, (mw 149 (by decide +kernel) (by decide +kernel)), tyX6_ok, nmX6, rfl, (by decide +kernel)⟩
theorem fl_10_154 : FL RX10 154 6 1 := ⟨RX6, TX6, 7, rfl, by decide, uw_6, (mw 150 (by decide +kernel) (by decide +kernel))⟩
theorem pl_10_154 : PL RX10 154 6 1 .int := ⟨RX6, TX6, 7, tyX6, rfl, by decide, uw_6, (mw 150 (by decide +kernel) (by decide +kernel)), tyX6_ok, nmX6, rfl, (by decide +kernel)⟩
theorem fl_6_46 : FL RX6 46 6 2 := ⟨RX6, TX6, 7, rfl, by decide, uw_6, (mw 151 (by decide +kernel) (by decide +kernel))⟩
theorem pl_6_46 : PL RX6 46 6 2 .int := ⟨RX6, TX6, 7, tyX6, rfl, by decide, uw_6, (mw 151 (by decide +kernel) (by decide +kernel)), tyX6_ok, nmX6, rfl, (by decide +kernel)⟩
theorem fl_10_157 : FL RX10 157 6 2 := ⟨RX6, TX6, 7, rfl, by decide, uw_6, (mw 152 (by decide +kernel) (by decide +kernel))⟩
theorem pl_10_157 : PL RX10 157 6 2 .int := ⟨RX6, TX6, 7, tyX6, rfl, by decide, uw_6, (mw 152 (by decide +kernel) (by decide +kernel)), tyX6_ok, nmX6, rfl, (by decide +kernel)⟩
theorem fl_6_12 : FL RX6 12 6 3 := ⟨RX6, TX6, 7, rfl, by decide, uw_6, (mw 153 (by decide +kernel) (by decide +kernel))⟩
theorem fl_9_59 : FL RX9 59 6 3 := ⟨RX6, TX6, 7, rfl, by decide, uw_6, (mw 154 (by decide +kernel) (by decide +kernel))⟩
theorem fl_10_79 : FL RX10 79 6 3 := ⟨RX6, TX6, 7, rfl, by decide, uw_6, (mw 155 (by decide +kernel) (by decide +kernel))⟩
theorem fl_3_53 : FL RX3 53 6 3 := ⟨RX6, TX6, 7, rfl, by decide, uw_6, (mw 156 (by decide +kernel) (by decide +kernel))⟩
theorem fl_6_21 : FL RX6 21 6 4 := ⟨RX6, TX6, 7, rfl, by decide, uw_6, (mw 157 (by decide +kernel) (by decide +kernel))⟩
theorem fl_9_45 : FL RX9 45 6 4 := ⟨RX6, TX6, 7, rfl, by decide, uw_6, (mw 158 (by decide +kernel) (by decide +kernel))⟩
theorem fl_3_43 : FL RX3 43 6 4 := ⟨RX6, TX6, 7, rfl, by decide, uw_6, (mw 159 (by decide +kernel) (by decide +kernel))⟩
theorem fl_10_105 : FL RX10 105 6 4 := ⟨RX6, TX6, 7, rfl, by decide, uw_6, (mw 160 (by decide +kernel) (by decide +kernel))⟩
theorem fl_6_28 : FL RX6 28 6 5 := ⟨RX6, TX6, 7, rfl, by decide, uw_6, (mw 161 (by decide +kernel) (by decide +kernel))⟩
theorem fl_9_35 : FL RX9 35 6 5 := ⟨RX6, TX6, 7, rfl, by decide, uw_6, (mw 162 (by decide +kernel) (by decide +kernel))⟩
theorem fl_10_125 : FL RX10 125 6 5 := ⟨RX6, TX6, 7, rfl, by decide, uw_6, (mw 163 (by decide +kernel) (by decide +kernel))⟩
theorem fl_6_35 : FL RX6 35 6 6 := ⟨RX6, TX6, 7, rfl, by decide, uw_6, (mw 164 (by decide +kernel) (by decide +kernel))⟩
theorem fl_3_31 : FL RX3 31 6 6 := ⟨RX6, TX6, 7, rfl, by decide, uw_6, (mw 165 (by decide +kernel) (by decide +kernel))⟩
theorem fl_10_139 : FL RX10 139 6 6 := ⟨RX6, TX6, 7, rfl, by decide, uw_6, (mw 166 (by decide +kernel) (by decide +kernel))⟩
theorem fl_2_31 : FL RX2 31 2 0 := ⟨RX2, TX2, 5, rfl, by decide, uw_2, (mw 218 (by decide +kernel) (by decide +kernel))⟩
theorem pl_2_31 : PL RX2 31 2 0 .int := ⟨RX2, TX2, 5, tyX2, rfl, by decide, uw_2, (mw 218 (by decide +kernel) (by decide +kernel)), tyX2_ok, nmX2, rfl, (by decide +kernel)⟩
theorem fl_10_212 : FL RX10 212 2 0 := ⟨RX2, TX2, 5, rfl, by decide, uw_2, (mw 219 (by decide +kernel) (by decide +kernel))⟩
theorem pl_10_212 : PL RX10 212 2 0 .int := ⟨RX2, TX2, 5, tyX2, rfl, by decide, uw_2, (mw 219 (by decide +kernel) (by decide +kernel)), tyX2_ok, nmX2, rfl, (by decide +kernel)⟩
theorem fl_2_12 : FL RX2 12 2 1 := ⟨RX2, TX2, 5, rfl, by decide, uw_2, (mw 220 (by decide +kernel) (by decide +kernel))⟩
theorem fl_2_18 : FL RX2 18 2 2 := ⟨RX2, TX2, 5, rfl, by decide, uw_2, (mw 221 (by decide +kernel) (by decide +kernel))⟩
theorem fl_2_21 : FL RX2 21 2 3 := ⟨RX2, TX2, 5, rfl, by decide, uw_2, (mw 222 (by decide +kernel) (by decide +kernel))⟩
theorem fl_2_24 : FL RX2 24 2 4 := ⟨RX2, TX2, 5, rfl, by decide, uw_2, (mw 223 (by decide +kernel) (by decide +kernel))⟩
theorem fl_10_213 : FL RX10 213 8 0 := ⟨RX8, TX8, 10, rfl, by decide, uw_8, (mw 243 (by decide +kernel) (by decide +kernel))⟩
theorem pl_10_213 : PL RX10 213 8 0 .int := ⟨RX8, TX8, 10, tyX8, rfl, by decide, uw_8, (mw 243 (by decide +kernel) (by decide +kernel)), tyX8_ok, nmX8, rfl, (by decide +kernel)⟩
theorem fl_8_9 : FL RX8 9 8 1 := ⟨RX8, TX8, 10, rfl, by decide, uw_8, (mw 244 (by decide +kernel) (by decide +kernel))⟩
theorem fl_8_18 : FL RX8 18 8 2 := ⟨RX8, TX8, 10, rfl, by decide, uw_8, (mw 245 (by decide +kernel) (by decide +kernel))⟩
theorem fl_8_22 : FL RX8 22 8 9 := ⟨RX8, TX8, 10, rfl, by decide, uw_8, (mw 246 (by decide +kernel) (by decide +kernel))⟩
theorem fl_9_22 : FL RX9 22 9 0 := ⟨RX9, TX9, 6, rfl, by decide, uw_9, (mw 274 (by decide +kernel) (by decide +kernel))⟩
theorem pl_9_22 : PL RX9 22 9 0 .int := ⟨RX9, TX9, 6, tyX9, rfl, by decide, uw_9, (mw 274 (by decide +kernel) (by decide +kernel)), tyX9_ok, nmX9, rfl, (by decide +kernel)⟩
theorem fl_10_224 : FL RX10 224 9 0 := ⟨RX9, TX9, 6, rfl, by decide, uw_9, (mw 275 (by decide +kernel) (by decide +kernel))⟩
theorem pl_10_224 : PL RX10 224 9 0 .int := ⟨RX9, TX9, 6, tyX9, rfl, by decide, uw_9, (mw 275 (by decide +kernel) (by decide +kernel)), tyX9_ok, nmX9, rfl, (by decide +kernel)⟩
theorem fl_9_9 : FL RX9 9 9 1 := ⟨RX9, TX9, 6, rfl, by decide, uw_9, (mw 276 (by decide +kernel) (by decide +kernel))⟩
theorem fl_10_225 : FL RX10 225 9 1 := ⟨RX9, TX9, 6, rfl, by decide, uw_9, (mw 277 (by decide +kernel) (by decide +kernel))⟩
theorem fl_9_15 : FL RX9 15 9 2 := ⟨RX9, TX9, 6, rfl, by decide, uw_9, (mw 278 (by decide +kernel) (by decide +kernel))⟩
theorem fl_9_19 : FL RX9 19 9 3 := ⟨RX9, TX9, 6, rfl, by decide, uw_9, (mw 279 (by decide +kernel) (by decide +kernel))⟩
theorem fl_9_32 : FL RX9 32 9 4 := ⟨RX9, TX9, 6, rfl, by decide, uw_9, (mw 280 (by decide +kernel) (by decide +kernel))⟩
theorem pl_9_32 : PL RX9 32 9 4 .long := ⟨RX9, TX9, 6, tyX9, rfl, by decide, uw_9, (mw 280 (by decide +kernel) (by decide +kernel)), tyX9_ok, nmX9, rfl, (by decide +kernel)⟩
theorem fl_9_76 : FL RX9 76 9 5 := ⟨RX9, TX9, 6, rfl, by decide, uw_9, (mw 281 (by decide +kernel) (by decide +kernel))⟩
theorem pl_9_76 : PL RX9 76 9 5 .int := ⟨RX9, TX9, 6, tyX9, rfl, by decide, uw_9, (mw 281 (by decide +kernel) (by decide +kernel)), tyX9_ok, nmX9, rfl, (by decide +kernel)⟩
theorem fl_6_120 : FL RX6 120 9 5 := ⟨RX9, TX9, 6, rfl, by decide, uw_9, (mw 282 (by decide +kernel) (by decide +kernel))⟩
theorem pl_6_120 : PL RX6 120 9 5 .int := ⟨RX9, TX9, 6, tyX9, rfl, by decide, uw_9, (mw 282 (by decide +kernel) (by decide +kernel)), tyX9_ok, nmX9, rfl, (by decide +kernel)⟩
theorem fl_3_9 : FL RX3 9 3 0 := ⟨RX3, TX3, 2, rfl, by decide, uw_3, (mw 303 (by decide +kernel) (by decide +kernel))⟩
theorem fl_10_240 : FL RX10 240 3 0 := ⟨RX3, TX3, 2, rfl, by decide, uw_3, (mw 304 (by decide +kernel) (by decide +kernel))⟩
theorem fl_3_23 : FL RX3 23 3 1 := ⟨RX3, TX3, 2, rfl, by decide, uw_3, (mw 305 (by decide +kernel) (by decide +kernel))⟩
theorem pl_3_23 : PL RX3 23 3 1 .long := ⟨RX3, TX3, 2, tyX3, rfl, by decide, uw_3, (mw 305 (by decide +kernel) (by decide +kernel)), tyX3_ok, nmX3, rfl, (by decide +kernel)⟩
theorem fl_5_22 : FL RX5 22 5 0 := ⟨RX5, TX5, 3, rfl, by decide, uw_5, (mw 317 (by decide +kernel) (by decide +kernel))⟩
theorem pl_5_22 : PL RX5 22 5 0 .int := ⟨RX5, TX5, 3, tyX5, rfl, by decide, uw_5, (mw 317 (by decide +kernel) (by decide +kernel)), tyX5_ok, nmX5, rfl, (by decide +kernel)⟩
theorem fl_5_9 : FL RX5 9 5 1 := ⟨RX5, TX5, 3, rfl, by decide, uw_5, (mw 318 (by decide +kernel) (by decide +kernel))⟩
theorem fl_5_15 : FL RX5 15 5 2 := ⟨RX5, TX5, 3, rfl, by decide, uw_5, (mw 319 (by decide +kernel) (by decide +kernel))⟩
theorem fl_10_10 : FL RX10 10 10 0 := ⟨RX10, TX10, 8, rfl, by decide, uw_10, (mw 327 (by decide +kernel) (by decide +kernel))⟩
theorem fl_10_23 : FL RX10 23 10 1 := ⟨RX10, TX10, 8, rfl, by decide, uw_10, (mw 328 (by decide +kernel) (by decide +kernel))⟩
theorem fl_10_27 : FL RX10 27 10 2 := ⟨RX10, TX10, 8, rfl, by decide, uw_10, (mw 329 (by decide +kernel) (by decide +kernel))⟩
theorem fl_10_30 : FL RX10 30 10 3 := ⟨RX10, TX10, 8, rfl, by decide, uw_10, (mw 330 (by decide +kernel) (by decide +kernel))⟩
theorem pl_10_30 : PL RX10 30 10 3 .boolean := ⟨RX10, TX10, 8, tyX10, rfl, by decide, uw_10, (mw 330 (by decide +kernel) (by decide +kernel)), tyX10_ok, nmX10, rfl, (by decide +kernel)⟩
theorem fl_10_37 : FL RX10 37 10 4 := ⟨RX10, TX10, 8, rfl, by decide, uw_10, (mw 331 (by decide +kernel) (by decide +kernel))⟩
theorem fl_10_44 : FL RX10 44 10 5 := ⟨RX10, TX10, 8, rfl, by decide, uw_10, (mw 332 (by decide +kernel) (by decide +kernel))⟩
theorem fl_10_51 : FL RX10 51 10 6 := ⟨RX10, TX10, 8, rfl, by decide, uw_10, (mw 333 (by decide +kernel) (by decide +kernel))⟩
theorem fl_10_58 : FL RX10 58 10 7 := ⟨RX10, TX10, 8, rfl, by decide, uw_10, (mw 334 (by decide +kernel) (by decide +kernel))⟩
theorem cv_10_16 : CV RX10 16 RX6 yX6_reset cX6_reset 2 none 1 := ⟨(mw 182 (by decide +kernel) (by decide +kernel)), (mw 183 (by decide +kernel) (by decide +kernel)), (mw 184 (by decide +kernel) (by decide +kernel)), (mw 11 (by decide +kernel) (by decide +kernel)), (mw 185 (by decide +kernel) (by decide +kernel)), ⟨(by decide +kernel), (by decide +kernel), (by decide +kernel)⟩⟩
theorem cv_6_52 : CV RX6 52 RX0 yX0_reset cX0_reset 2 none 0 := ⟨(mw 186 (by decide +kernel) (by decide +kernel)), (mw 187 (by decide +kernel) (by decide +kernel)), (mw 188 (by decide +kernel) (by decide +kernel)), (mw 13 (by decide +kernel) (by decide +kernel)), (mw 189 (by decide +kernel) (by decide +kernel)), ⟨(by decide +kernel), (by decide +kernel), (by decide +kernel)⟩⟩
theorem cv_6_55 : CV RX6 55 RX1 yX1_reset cX1_reset 3 none 1 := ⟨(mw 190 (by decide +kernel) (by decide +kernel)), (mw 191 (by decide +kernel) (by decide +kernel)), (mw 192 (by decide +kernel) (by decide +kernel)), (mw 14 (by decide +kernel) (by decide +kernel)), (mw 193 (by decide +kernel) (by decide +kernel)), ⟨(by decide +kernel), (by decide +kernel), (by decide +kernel)⟩⟩
theorem cv_1_22 : CV RX1 22 RX1 yX1_addAlong cX1_addAlong 3 none 2 := ⟨(mw 194 (by decide +kernel) (by decide +kernel)), (mw 196 (by decide +kernel) (by decide +kernel)), (mw 0 (by decide +kernel) (by decide +kernel)), (mw 14 (by decide +kernel) (by decide +kernel)), (mw 197 (by decide +kernel) (by decide +kernel)), ⟨(by decide +kernel), (by decide +kernel), (by decide +kernel)⟩⟩
theorem cv_1_26 : CV RX1 26 RX1 yX1_add cX1_add 4 none 3 := ⟨(mw 198 (by decide +kernel) (by decide +kernel)), (mw 199 (by decide +kernel) (by decide +kernel)), (mw 200 (by decide +kernel) (by decide +kernel)), (mw 14 (by decide +kernel) (by decide +kernel)), (mw 201 (by decide +kernel) (by decide +kernel)), ⟨(by decide +kernel), (by decide +kernel), (by decide +kernel)⟩⟩
theorem cv_6_58 : CV RX6 58 RX4 yX4_begin cX4_begin 5 none 4 := ⟨(mw 202 (by decide +kernel) (by decide +kernel)), (mw 203 (by decide +kernel) (by decide +kernel)), (mw 204 (by decide +kernel) (by decide +kernel)), (mw 15 (by decide +kernel) (by decide +kernel)), (mw 205 (by decide +kernel) (by decide +kernel)), ⟨(by decide +kernel), (by decide +kernel), (by decide +kernel)⟩⟩
theorem cv_4_18 : CV RX4 18 RX4 yX4_moveTo cX4_moveTo 4 none 3 := ⟨(mw 206 (by decide +kernel) (by decide +kernel)), (mw 208 (by decide +kernel) (by decide +kernel)), (mw 1 (by decide +kernel) (by decide +kernel)), (mw 15 (by decide +kernel) (by decide +kernel)), (mw 209 (by decide +kernel) (by decide +kernel)), ⟨(by decide +kernel), (by decide +kernel), (by decide +kernel)⟩⟩
theorem cv_L_95 : CV RL 95 RX10 yX10_poll cX10_poll 1 (some .int) 0 := ⟨(mw 352 (by decide +kernel) (by decide +kernel)), (mw 353 (by decide +kernel) (by decide +kernel)), (mw 354 (by decide +kernel) (by decide +kernel)), (mw 10 (by decide +kernel) (by decide +kernel)), (mw 355 (by decide +kernel) (by decide +kernel)), ⟨(by decide +kernel), (by decide +kernel), (by decide +kernel)⟩⟩
theorem cv_10_160 : CV RX10 160 RX6 yX6_canPoll cX6_canPoll 1 (some .boolean) 0 := ⟨(mw 356 (by decide +kernel) (by decide +kernel)), (mw 357 (by decide +kernel) (by decide +kernel)), (mw 358 (by decide +kernel) (by decide +kernel)), (mw 11 (by decide +kernel) (by decide +kernel)), (mw 359 (by decide +kernel) (by decide +kernel)), ⟨(by decide +kernel), (by decide +kernel), (by decide +kernel)⟩⟩
theorem cv_6_86 : CV RX6 86 RX6 yX6_placeIsAllowed cX6_placeIsAllowed 1 (some .boolean) 0 := ⟨(mw 360 (by decide +kernel) (by decide +kernel)), (mw 361 (by decide +kernel) (by decide +kernel)), (mw 362 (by decide +kernel) (by decide +kernel)), (mw 11 (by decide +kernel) (by decide +kernel)), (mw 363 (by decide +kernel) (by decide +kernel)), ⟨(by decide +kernel), (by decide +kernel), (by decide +kernel)⟩⟩
theorem cv_6_83 : CV RX6 83 RX0 yX0_allow cX0_allow 4 (some .boolean) 3 := ⟨(mw 364 (by decide +kernel) (by decide +kernel)), (mw 365 (by decide +kernel) (by decide +kernel)), (mw 366 (by decide +kernel) (by decide +kernel)), (mw 13 (by decide +kernel) (by decide +kernel)), (mw 367 (by decide +kernel) (by decide +kernel)), ⟨(by decide +kernel), (by decide +kernel), (by decide +kernel)⟩⟩
theorem cv_0_24 : CN RX0 24 yX10_within "PollMeshes" cX10_within 3 (some .boolean) 3 := ⟨List.mem_of_getElem? (i := 12) (by decide +kernel), (mw 369 (by decide +kernel) (by decide +kernel)), (mw 10 (by decide +kernel) (by decide +kernel)), (mw 370 (by decide +kernel) (by decide +kernel)), ⟨(by decide +kernel), (by decide +kernel), (by decide +kernel)⟩⟩
theorem cv_10_71 : CV RX10 71 RX2 yX2_push cX2_push 2 none 1 := ⟨(mw 372 (by decide +kernel) (by decide +kernel)), (mw 373 (by decide +kernel) (by decide +kernel)), (mw 374 (by decide +kernel) (by decide +kernel)), (mw 16 (by decide +kernel) (by decide +kernel)), (mw 375 (by decide +kernel) (by decide +kernel)), ⟨(by decide +kernel), (by decide +kernel), (by decide +kernel)⟩⟩
theorem cv_2_27 : CV RX2 27 RX6 yX6_copyFrom cX6_copyFrom 2 none 1 := ⟨(mw 376 (by decide +kernel) (by decide +kernel)), (mw 377 (by decide +kernel) (by decide +kernel)), (mw 378 (by decide +kernel) (by decide +kernel)), (mw 11 (by decide +kernel) (by decide +kernel)), (mw 379 (by decide +kernel) (by decide +kernel)), ⟨(by decide +kernel), (by decide +kernel), (by decide +kernel)⟩⟩
theorem cv_6_62 : CV RX6 62 RX7 yX7_copyFrom cX7_copyFrom 2 none 1 := ⟨(mw 380 (by decide +kernel) (by decide +kernel)), (mw 381 (by decide +kernel) (by decide +kernel)), (mw 382 (by decide +kernel) (by decide +kernel)), (mw 12 (by decide +kernel) (by decide +kernel)), (mw 383 (by decide +kernel) (by decide +kernel)), ⟨(by decide +kernel), (by decide +kernel), (by decide +kernel)⟩⟩
theorem cm_7_22 : Cond.methodLink RX7 22 arraycopyName ∈ tb ∧ Cond.native arraycopyName ∈ tb ∧ Cond.static arraycopyName ∈ tb ∧ Cond.initialized "java/lang/System" ∈ tb := ⟨(mw 384 (by decide +kernel) (by decide +kernel)), (mw 386 (by decide +kernel) (by decide +kernel)), (mw 385 (by decide +kernel) (by decide +kernel)), (mw 21 (by decide +kernel) (by decide +kernel))⟩
theorem cv_6_66 : CV RX6 66 RX0 yX0_copyFrom cX0_copyFrom 2 none 1 := ⟨(mw 387 (by decide +kernel) (by decide +kernel)), (mw 388 (by decide +kernel) (by decide +kernel)), (mw 389 (by decide +kernel) (by decide +kernel)), (mw 13 (by decide +kernel) (by decide +kernel)), (mw 390 (by decide +kernel) (by decide +kernel)), ⟨(by decide +kernel), (by decide +kernel), (by decide +kernel)⟩⟩
theorem cm_0_18 : Cond.methodLink RX0 18 arraycopyName ∈ tb ∧ Cond.native arraycopyName ∈ tb ∧ Cond.static arraycopyName ∈ tb ∧ Cond.initialized "java/lang/System" ∈ tb := ⟨(mw 391 (by decide +kernel) (by decide +kernel)), (mw 386 (by decide +kernel) (by decide +kernel)), (mw 385 (by decide +kernel) (by decide +kernel)), (mw 21 (by decide +kernel) (by decide +kernel))⟩
theorem cv_6_69 : CV RX6 69 RX1 yX1_copyFrom cX1_copyFrom 2 none 1 := ⟨(mw 392 (by decide +kernel) (by decide +kernel)), (mw 393 (by decide +kernel) (by decide +kernel)), (mw 394 (by decide +kernel) (by decide +kernel)), (mw 14 (by decide +kernel) (by decide +kernel)), (mw 395 (by decide +kernel) (by decide +kernel)), ⟨(by decide +kernel), (by decide +kernel), (by decide +kernel)⟩⟩
theorem cm_1_30 : Cond.methodLink RX1 30 arraycopyName ∈ tb ∧ Cond.native arraycopyName ∈ tb ∧ Cond.static arraycopyName ∈ tb ∧ Cond.initialized "java/lang/System" ∈ tb := ⟨(mw 396 (by decide +kernel) (by decide +kernel)), (mw 386 (by decide +kernel) (by decide +kernel)), (mw 385 (by decide +kernel) (by decide +kernel)), (mw 21 (by decide +kernel) (by decide +kernel))⟩
theorem cv_6_72 : CV RX6 72 RX4 yX4_copyFrom cX4_copyFrom 2 none 1 := ⟨(mw 397 (by decide +kernel) (by decide +kernel)), (mw 398 (by decide +kernel) (by decide +kernel)), (mw 399 (by decide +kernel) (by decide +kernel)), (mw 15 (by decide +kernel) (by decide +kernel)), (mw 400 (by decide +kernel) (by decide +kernel)), ⟨(by decide +kernel), (by decide +kernel), (by decide +kernel)⟩⟩
theorem cm_4_45 : Cond.methodLink RX4 45 arraycopyName ∈ tb ∧ Cond.native arraycopyName ∈ tb ∧ Cond.static arraycopyName ∈ tb ∧ Cond.initialized "java/lang/System" ∈ tb := ⟨(mw 401 (by decide +kernel) (by decide +kernel)), (mw 386 (by decide +kernel) (by decide +kernel)), (mw 385 (by decide +kernel) (by decide +kernel)), (mw 21 (by decide +kernel) (by decide +kernel))⟩
theorem cm_2_35 : Cond.methodLink RX2 35 Lib.Math.min.name ∈ tb ∧ Cond.static Lib.Math.min.name ∈ tb ∧ Cond.initialized "java/lang/Math" ∈ tb ∧ Cond.code Lib.Math.min.name Lib.Math.min.code 2 (some .int) ∈ tb := ⟨(mw 402 (by decide +kernel) (by decide +kernel)), (mw 403 (by decide +kernel) (by decide +kernel)), (mw 22 (by decide +kernel) (by decide +kernel)), (mw 404 (by decide +kernel) (by decide +kernel))⟩
theorem cv_10_163 : CV RX10 163 RX6 yX6_pollOnce cX6_pollOnce 4 (some .int) 1 := ⟨(mw 405 (by decide +kernel) (by decide +kernel)), (mw 406 (by decide +kernel) (by decide +kernel)), (mw 407 (by decide +kernel) (by decide +kernel)), (mw 11 (by decide +kernel) (by decide +kernel)), (mw 408 (by decide +kernel) (by decide +kernel)), ⟨(by decide +kernel), (by decide +kernel), (by decide +kernel)⟩⟩
theorem cv_6_104 : CV RX6 104 RX9 yX9_gather cX9_gather 7 none 2 := ⟨(mw 409 (by decide +kernel) (by decide +kernel)), (mw 410 (by decide +kernel) (by decide +kernel)), (mw 411 (by decide +kernel) (by decide +kernel)), (mw 18 (by decide +kernel) (by decide +kernel)), (mw 412 (by decide +kernel) (by decide +kernel)), ⟨(by decide +kernel), (by decide +kernel), (by decide +kernel)⟩⟩
theorem cv_9_26 : CV RX9 26 RX6 yX6_valueHere cX6_valueHere 1 (some .long) 0 := ⟨(mw 413 (by decide +kernel) (by decide +kernel)), (mw 414 (by decide +kernel) (by decide +kernel)), (mw 415 (by decide +kernel) (by decide +kernel)), (mw 11 (by decide +kernel) (by decide +kernel)), (mw 416 (by decide +kernel) (by decide +kernel)), ⟨(by decide +kernel), (by decide +kernel), (by decide +kernel)⟩⟩
theorem cv_6_91 : CV RX6 91 RX7 yX7_sumAt cX7_sumAt 10 (some .long) 4 := ⟨(mw 417 (by decide +kernel) (by decide +kernel)), (mw 418 (by decide +kernel) (by decide +kernel)), (mw 419 (by decide +kernel) (by decide +kernel)), (mw 12 (by decide +kernel) (by decide +kernel)), (mw 420 (by decide +kernel) (by decide +kernel)), ⟨(by decide +kernel), (by decide +kernel), (by decide +kernel)⟩⟩
theorem cv_7_32 : CS RX7 32 yX7_raised cX7_raised 5 (some .long) 2 := ⟨(mw 421 (by decide +kernel) (by decide +kernel)), (mw 422 (by decide +kernel) (by decide +kernel)), (mw 12 (by decide +kernel) (by decide +kernel)), (mw 423 (by decide +kernel) (by decide +kernel)), ⟨(by decide +kernel), (by decide +kernel), (by decide +kernel)⟩⟩
theorem cv_9_41 : CV RX9 41 RX6 yX6_trialNumber cX6_trialNumber 4 (some .int) 3 := ⟨(mw 424 (by decide +kernel) (by decide +kernel)), (mw 425 (by decide +kernel) (by decide +kernel)), (mw 426 (by decide +kernel) (by decide +kernel)), (mw 11 (by decide +kernel) (by decide +kernel)), (mw 427 (by decide +kernel) (by decide +kernel)), ⟨(by decide +kernel), (by decide +kernel), (by decide +kernel)⟩⟩
theorem cv_9_49 : CV RX9 49 RX0 yX0_allow cX0_allow 4 (some .boolean) 3 := ⟨(mw 428 (by decide +kernel) (by decide +kernel)), (mw 365 (by decide +kernel) (by decide +kernel)), (mw 366 (by decide +kernel) (by decide +kernel)), (mw 13 (by decide +kernel) (by decide +kernel)), (mw 367 (by decide +kernel) (by decide +kernel)), ⟨(by decide +kernel), (by decide +kernel), (by decide +kernel)⟩⟩
theorem cv_9_55 : CV RX9 55 RX6 yX6_rankOf cX6_rankOf 5 (some .long) 4 := ⟨(mw 429 (by decide +kernel) (by decide +kernel)), (mw 430 (by decide +kernel) (by decide +kernel)), (mw 431 (by decide +kernel) (by decide +kernel)), (mw 11 (by decide +kernel) (by decide +kernel)), (mw 432 (by decide +kernel) (by decide +kernel)), ⟨(by decide +kernel), (by decide +kernel), (by decide +kernel)⟩⟩
theorem cv_9_63 : CV RX9 63 RX7 yX7_sumAt cX7_sumAt 10 (some .long) 4 := ⟨(mw 433 (by decide +kernel) (by decide +kernel)), (mw 418 (by decide +kernel) (by decide +kernel)), (mw 419 (by decide +kernel) (by decide +kernel)), (mw 12 (by decide +kernel) (by decide +kernel)), (mw 420 (by decide +kernel) (by decide +kernel)), ⟨(by decide +kernel), (by decide +kernel), (by decide +kernel)⟩⟩
theorem cv_9_68 : CV RX9 68 RX9 yX9_insert cX9_insert 7 none 3 := ⟨(mw 434 (by decide +kernel) (by decide +kernel)), (mw 436 (by decide +kernel) (by decide +kernel)), (mw 2 (by decide +kernel) (by decide +kernel)), (mw 18 (by decide +kernel) (by decide +kernel)), (mw 437 (by decide +kernel) (by decide +kernel)), ⟨(by decide +kernel), (by decide +kernel), (by decide +kernel)⟩⟩
theorem cv_6_110 : CV RX6 110 RX9 yX9_chooseBetter cX9_chooseBetter 6 (some .int) 1 := ⟨(mw 438 (by decide +kernel) (by decide +kernel)), (mw 439 (by decide +kernel) (by decide +kernel)), (mw 440 (by decide +kernel) (by decide +kernel)), (mw 18 (by decide +kernel) (by decide +kernel)), (mw 441 (by decide +kernel) (by decide +kernel)), ⟨(by decide +kernel), (by decide +kernel), (by decide +kernel)⟩⟩
theorem cv_6_121 : CV RX6 121 RX4 yX4_fail cX4_fail 1 none 0 := ⟨(mw 442 (by decide +kernel) (by decide +kernel)), (mw 443 (by decide +kernel) (by decide +kernel)), (mw 444 (by decide +kernel) (by decide +kernel)), (mw 15 (by decide +kernel) (by decide +kernel)), (mw 445 (by decide +kernel) (by decide +kernel)), ⟨(by decide +kernel), (by decide +kernel), (by decide +kernel)⟩⟩
theorem cm_4_57 : Cond.methodLink RX4 57 Lib.Math.max.name ∈ tb ∧ Cond.static Lib.Math.max.name ∈ tb ∧ Cond.initialized "java/lang/Math" ∈ tb ∧ Cond.code Lib.Math.max.name Lib.Math.max.code 2 (some .int) ∈ tb := ⟨(mw 446 (by decide +kernel) (by decide +kernel)), (mw 447 (by decide +kernel) (by decide +kernel)), (mw 22 (by decide +kernel) (by decide +kernel)), (mw 448 (by decide +kernel) (by decide +kernel))⟩
theorem cv_6_127 : CV RX6 127 RX6 yX6_trialNumber cX6_trialNumber 4 (some .int) 3 := ⟨(mw 449 (by decide +kernel) (by decide +kernel)), (mw 425 (by decide +kernel) (by decide +kernel)), (mw 426 (by decide +kernel) (by decide +kernel)), (mw 11 (by decide +kernel) (by decide +kernel)), (mw 427 (by decide +kernel) (by decide +kernel)), ⟨(by decide +kernel), (by decide +kernel), (by decide +kernel)⟩⟩
theorem cv_6_131 : CV RX6 131 RX4 yX4_succeed cX4_succeed 5 none 4 := ⟨(mw 450 (by decide +kernel) (by decide +kernel)), (mw 451 (by decide +kernel) (by decide +kernel)), (mw 452 (by decide +kernel) (by decide +kernel)), (mw 15 (by decide +kernel) (by decide +kernel)), (mw 453 (by decide +kernel) (by decide +kernel)), ⟨(by decide +kernel), (by decide +kernel), (by decide +kernel)⟩⟩
theorem cm_4_51 : Cond.methodLink RX4 51 Lib.Math.min.name ∈ tb ∧ Cond.static Lib.Math.min.name ∈ tb ∧ Cond.initialized "java/lang/Math" ∈ tb ∧ Cond.code Lib.Math.min.name Lib.Math.min.code 2 (some .int) ∈ tb := ⟨(mw 454 (by decide +kernel) (by decide +kernel)), (mw 403 (by decide +kernel) (by decide +kernel)), (mw 22 (by decide +kernel) (by decide +kernel)), (mw 404 (by decide +kernel) (by decide +kernel))⟩
theorem cv_L_116 : CV RL 116 RX10 yX10_run cX10_run 3 (some .int) 1 := ⟨(mw 455 (by decide +kernel) (by decide +kernel)), (mw 456 (by decide +kernel) (by decide +kernel)), (mw 457 (by decide +kernel) (by decide +kernel)), (mw 10 (by decide +kernel) (by decide +kernel)), (mw 458 (by decide +kernel) (by decide +kernel)), ⟨(by decide +kernel), (by decide +kernel), (by decide +kernel)⟩⟩
theorem cv_10_62 : CS RX10 62 yX10_within cX10_within 3 (some .boolean) 3 := ⟨(mw 459 (by decide +kernel) (by decide +kernel)), (mw 369 (by decide +kernel) (by decide +kernel)), (mw 10 (by decide +kernel) (by decide +kernel)), (mw 370 (by decide +kernel) (by decide +kernel)), ⟨(by decide +kernel), (by decide +kernel), (by decide +kernel)⟩⟩
theorem cv_L_69 : CV RL 69 RX10 yX10_value cX10_value 6 (some .long) 4 := ⟨(mw 461 (by decide +kernel) (by decide +kernel)), (mw 462 (by decide +kernel) (by decide +kernel)), (mw 463 (by decide +kernel) (by decide +kernel)), (mw 10 (by decide +kernel) (by decide +kernel)), (mw 464 (by decide +kernel) (by decide +kernel)), ⟨(by decide +kernel), (by decide +kernel), (by decide +kernel)⟩⟩
theorem cv_10_75 : CV RX10 75 RX6 yX6_fit cX6_fit 6 (some .boolean) 5 := ⟨(mw 465 (by decide +kernel) (by decide +kernel)), (mw 466 (by decide +kernel) (by decide +kernel)), (mw 467 (by decide +kernel) (by decide +kernel)), (mw 11 (by decide +kernel) (by decide +kernel)), (mw 468 (by decide +kernel) (by decide +kernel)), ⟨(by decide +kernel), (by decide +kernel), (by decide +kernel)⟩⟩
theorem cv_6_75 : CN RX6 75 yX10_within "PollMeshes" cX10_within 3 (some .boolean) 3 := ⟨List.mem_of_getElem? (i := 13) (by decide +kernel), (mw 369 (by decide +kernel) (by decide +kernel)), (mw 10 (by decide +kernel) (by decide +kernel)), (mw 370 (by decide +kernel) (by decide +kernel)), ⟨(by decide +kernel), (by decide +kernel), (by decide +kernel)⟩⟩
theorem cv_10_174 : CV RX10 174 RX7 yX7_sumAt cX7_sumAt 10 (some .long) 4 := ⟨(mw 472 (by decide +kernel) (by decide +kernel)), (mw 418 (by decide +kernel) (by decide +kernel)), (mw 419 (by decide +kernel) (by decide +kernel)), (mw 12 (by decide +kernel) (by decide +kernel)), (mw 420 (by decide +kernel) (by decide +kernel)), ⟨(by decide +kernel), (by decide +kernel), (by decide +kernel)⟩⟩
theorem cv_L_55 : CV RL 55 RX10 yX10_searchOf cX10_searchOf 2 (some .int) 1 := ⟨(mw 473 (by decide +kernel) (by decide +kernel)), (mw 474 (by decide +kernel) (by decide +kernel)), (mw 475 (by decide +kernel) (by decide +kernel)), (mw 10 (by decide +kernel) (by decide +kernel)), (mw 476 (by decide +kernel) (by decide +kernel)), ⟨(by decide +kernel), (by decide +kernel), (by decide +kernel)⟩⟩
theorem cv_10_121 : CS RX10 121 yX10_oneIf cX10_oneIf 1 (some .int) 1 := ⟨(mw 478 (by decide +kernel) (by decide +kernel)), (mw 479 (by decide +kernel) (by decide +kernel)), (mw 10 (by decide +kernel) (by decide +kernel)), (mw 480 (by decide +kernel) (by decide +kernel)), ⟨(by decide +kernel), (by decide +kernel), (by decide +kernel)⟩⟩
theorem cv_L_16 : CV RL 16 RX10 yX10_count cX10_count 2 (some .int) 1 := ⟨(mw 481 (by decide +kernel) (by decide +kernel)), (mw 482 (by decide +kernel) (by decide +kernel)), (mw 483 (by decide +kernel) (by decide +kernel)), (mw 10 (by decide +kernel) (by decide +kernel)), (mw 484 (by decide +kernel) (by decide +kernel)), ⟨(by decide +kernel), (by decide +kernel), (by decide +kernel)⟩⟩
theorem cv_10_216 : CV RX10 216 RX10 yX10_boundOf cX10_boundOf 2 (some .int) 1 := ⟨(mw 485 (by decide +kernel) (by decide +kernel)), (mw 487 (by decide +kernel) (by decide +kernel)), (mw 3 (by decide +kernel) (by decide +kernel)), (mw 10 (by decide +kernel) (by decide +kernel)), (mw 488 (by decide +kernel) (by decide +kernel)), ⟨(by decide +kernel), (by decide +kernel), (by decide +kernel)⟩⟩
theorem cv_L_19 : CV RL 19 RX10 yX10_spans cX10_spans 1 (some .int) 0 := ⟨(mw 489 (by decide +kernel) (by decide +kernel)), (mw 490 (by decide +kernel) (by decide +kernel)), (mw 491 (by decide +kernel) (by decide +kernel)), (mw 10 (by decide +kernel) (by decide +kernel)), (mw 492 (by decide +kernel) (by decide +kernel)), ⟨(by decide +kernel), (by decide +kernel), (by decide +kernel)⟩⟩
theorem cv_10_230 : CV RX10 230 RX5 yX5_isWhole cX5_isWhole 6 (some .boolean) 2 := ⟨(mw 493 (by decide +kernel) (by decide +kernel)), (mw 494 (by decide +kernel) (by decide +kernel)), (mw 495 (by decide +kernel) (by decide +kernel)), (mw 20 (by decide +kernel) (by decide +kernel)), (mw 496 (by decide +kernel) (by decide +kernel)), ⟨(by decide +kernel), (by decide +kernel), (by decide +kernel)⟩⟩
theorem cv_5_18 : CV RX5 18 RX5 yX5_fill cX5_fill 4 none 2 := ⟨(mw 497 (by decide +kernel) (by decide +kernel)), (mw 499 (by decide +kernel) (by decide +kernel)), (mw 4 (by decide +kernel) (by decide +kernel)), (mw 20 (by decide +kernel) (by decide +kernel)), (mw 500 (by decide +kernel) (by decide +kernel)), ⟨(by decide +kernel), (by decide +kernel), (by decide +kernel)⟩⟩
theorem cm_5_40 : Cond.methodLink RX5 40 arraycopyName ∈ tb ∧ Cond.native arraycopyName ∈ tb ∧ Cond.static arraycopyName ∈ tb ∧ Cond.initialized "java/lang/System" ∈ tb := ⟨(mw 501 (by decide +kernel) (by decide +kernel)), (mw 386 (by decide +kernel) (by decide +kernel)), (mw 385 (by decide +kernel) (by decide +kernel)), (mw 21 (by decide +kernel) (by decide +kernel))⟩
theorem cv_5_46 : CV RX5 46 RX5 yX5_addAlong cX5_addAlong 4 none 2 := ⟨(mw 502 (by decide +kernel) (by decide +kernel)), (mw 504 (by decide +kernel) (by decide +kernel)), (mw 5 (by decide +kernel) (by decide +kernel)), (mw 20 (by decide +kernel) (by decide +kernel)), (mw 505 (by decide +kernel) (by decide +kernel)), ⟨(by decide +kernel), (by decide +kernel), (by decide +kernel)⟩⟩
theorem cv_5_26 : CV RX5 26 RX5 yX5_findNormal cX5_findNormal 3 (some .boolean) 2 := ⟨(mw 506 (by decide +kernel) (by decide +kernel)), (mw 508 (by decide +kernel) (by decide +kernel)), (mw 6 (by decide +kernel) (by decide +kernel)), (mw 20 (by decide +kernel) (by decide +kernel)), (mw 509 (by decide +kernel) (by decide +kernel)), ⟨(by decide +kernel), (by decide +kernel), (by decide +kernel)⟩⟩
theorem cv_5_30 : CV RX5 30 RX5 yX5_hasRowsOnBothSides cX5_hasRowsOnBothSides 6 (some .boolean) 0 := ⟨(mw 510 (by decide +kernel) (by decide +kernel)), (mw 512 (by decide +kernel) (by decide +kernel)), (mw 7 (by decide +kernel) (by decide +kernel)), (mw 20 (by decide +kernel) (by decide +kernel)), (mw 513 (by decide +kernel) (by decide +kernel)), ⟨(by decide +kernel), (by decide +kernel), (by decide +kernel)⟩⟩
theorem cv_L_92 : CV RL 92 RX10 yX10_stuck cX10_stuck 2 (some .int) 1 := ⟨(mw 514 (by decide +kernel) (by decide +kernel)), (mw 515 (by decide +kernel) (by decide +kernel)), (mw 516 (by decide +kernel) (by decide +kernel)), (mw 10 (by decide +kernel) (by decide +kernel)), (mw 517 (by decide +kernel) (by decide +kernel)), ⟨(by decide +kernel), (by decide +kernel), (by decide +kernel)⟩⟩
theorem cv_10_117 : CV RX10 117 RX6 yX6_placeIsAllowed cX6_placeIsAllowed 1 (some .boolean) 0 := ⟨(mw 518 (by decide +kernel) (by decide +kernel)), (mw 361 (by decide +kernel) (by decide +kernel)), (mw 362 (by decide +kernel) (by decide +kernel)), (mw 11 (by decide +kernel) (by decide +kernel)), (mw 363 (by decide +kernel) (by decide +kernel)), ⟨(by decide +kernel), (by decide +kernel), (by decide +kernel)⟩⟩
theorem cv_10_220 : CV RX10 220 RX9 yX9_gather cX9_gather 7 none 2 := ⟨(mw 519 (by decide +kernel) (by decide +kernel)), (mw 410 (by decide +kernel) (by decide +kernel)), (mw 411 (by decide +kernel) (by decide +kernel)), (mw 18 (by decide +kernel) (by decide +kernel)), (mw 412 (by decide +kernel) (by decide +kernel)), ⟨(by decide +kernel), (by decide +kernel), (by decide +kernel)⟩⟩
theorem cv_10_234 : CV RX10 234 RX9 yX9_noneIsBetter cX9_noneIsBetter 2 (some .boolean) 0 := ⟨(mw 520 (by decide +kernel) (by decide +kernel)), (mw 521 (by decide +kernel) (by decide +kernel)), (mw 522 (by decide +kernel) (by decide +kernel)), (mw 18 (by decide +kernel) (by decide +kernel)), (mw 523 (by decide +kernel) (by decide +kernel)), ⟨(by decide +kernel), (by decide +kernel), (by decide +kernel)⟩⟩
theorem cv_9_72 : CV RX9 72 RX9 yX9_isBetter cX9_isBetter 2 (some .boolean) 1 := ⟨(mw 524 (by decide +kernel) (by decide +kernel)), (mw 525 (by decide +kernel) (by decide +kernel)), (mw 526 (by decide +kernel) (by decide +kernel)), (mw 18 (by decide +kernel) (by decide +kernel)), (mw 527 (by decide +kernel) (by decide +kernel)), ⟨(by decide +kernel), (by decide +kernel), (by decide +kernel)⟩⟩
theorem cv_L_23 : CS RL 23 yL_cell cL_cell 2 (some .int) 2 := ⟨(mw 528 (by decide +kernel) (by decide +kernel)), (mw 529 (by decide +kernel) (by decide +kernel)), (mw 9 (by decide +kernel) (by decide +kernel)), (mw 530 (by decide +kernel) (by decide +kernel)), ⟨(by decide +kernel), (by decide +kernel), (by decide +kernel)⟩⟩
theorem cv_L_29 : CS RL 29 yL_low cL_low 2 (some .int) 2 := ⟨(mw 533 (by decide +kernel) (by decide +kernel)), (mw 534 (by decide +kernel) (by decide +kernel)), (mw 9 (by decide +kernel) (by decide +kernel)), (mw 535 (by decide +kernel) (by decide +kernel)), ⟨(by decide +kernel), (by decide +kernel), (by decide +kernel)⟩⟩
theorem cv_L_107 : CS RL 107 yL_build cL_build 12 (some .boolean) 3 := ⟨(mw 537 (by decide +kernel) (by decide +kernel)), (mw 538 (by decide +kernel) (by decide +kernel)), (mw 9 (by decide +kernel) (by decide +kernel)), (mw 539 (by decide +kernel) (by decide +kernel)), ⟨(by decide +kernel), (by decide +kernel), (by decide +kernel)⟩⟩
theorem cv_L_10 : CV RL 10 RX10 yX10_variables cX10_variables 3 (some .int) 1 := ⟨(mw 540 (by decide +kernel) (by decide +kernel)), (mw 541 (by decide +kernel) (by decide +kernel)), (mw 542 (by decide +kernel) (by decide +kernel)), (mw 10 (by decide +kernel) (by decide +kernel)), (mw 543 (by decide +kernel) (by decide +kernel)), ⟨(by decide +kernel), (by decide +kernel), (by decide +kernel)⟩⟩
theorem cv_L_33 : CV RL 33 RX10 yX10_term cX10_term 5 (some .int) 4 := ⟨(mw 544 (by decide +kernel) (by decide +kernel)), (mw 545 (by decide +kernel) (by decide +kernel)), (mw 546 (by decide +kernel) (by decide +kernel)), (mw 10 (by decide +kernel) (by decide +kernel)), (mw 547 (by decide +kernel) (by decide +kernel)), ⟨(by decide +kernel), (by decide +kernel), (by decide +kernel)⟩⟩
theorem cv_10_89 : CV RX10 89 RX7 yX7_add cX7_add 5 none 4 := ⟨(mw 549 (by decide +kernel) (by decide +kernel)), (mw 550 (by decide +kernel) (by decide +kernel)), (mw 551 (by decide +kernel) (by decide +kernel)), (mw 12 (by decide +kernel) (by decide +kernel)), (mw 552 (by decide +kernel) (by decide +kernel)), ⟨(by decide +kernel), (by decide +kernel), (by decide +kernel)⟩⟩
theorem cv_L_37 : CV RL 37 RX10 yX10_dropDirection cX10_dropDirection 2 (some .int) 1 := ⟨(mw 553 (by decide +kernel) (by decide +kernel)), (mw 554 (by decide +kernel) (by decide +kernel)), (mw 555 (by decide +kernel) (by decide +kernel)), (mw 10 (by decide +kernel) (by decide +kernel)), (mw 556 (by decide +kernel) (by decide +kernel)), ⟨(by decide +kernel), (by decide +kernel), (by decide +kernel)⟩⟩
theorem cv_10_138 : CV RX10 138 RX1 yX1_remove cX1_remove 2 none 1 := ⟨(mw 557 (by decide +kernel) (by decide +kernel)), (mw 558 (by decide +kernel) (by decide +kernel)), (mw 559 (by decide +kernel) (by decide +kernel)), (mw 14 (by decide +kernel) (by decide +kernel)), (mw 560 (by decide +kernel) (by decide +kernel)), ⟨(by decide +kernel), (by decide +kernel), (by decide +kernel)⟩⟩
theorem cv_1_36 : CN RX1 36 yX10_closeGap "PollMeshes" cX10_closeGap 5 none 4 := ⟨List.mem_of_getElem? (i := 14) (by decide +kernel), (mw 562 (by decide +kernel) (by decide +kernel)), (mw 10 (by decide +kernel) (by decide +kernel)), (mw 563 (by decide +kernel) (by decide +kernel)), ⟨(by decide +kernel), (by decide +kernel), (by decide +kernel)⟩⟩
theorem cv_10_143 : CV RX10 143 RX4 yX4_forgetDirection cX4_forgetDirection 2 none 1 := ⟨(mw 564 (by decide +kernel) (by decide +kernel)), (mw 565 (by decide +kernel) (by decide +kernel)), (mw 566 (by decide +kernel) (by decide +kernel)), (mw 15 (by decide +kernel) (by decide +kernel)), (mw 567 (by decide +kernel) (by decide +kernel)), ⟨(by decide +kernel), (by decide +kernel), (by decide +kernel)⟩⟩
theorem cv_L_40 : CV RL 40 RX10 yX10_direction cX10_direction 4 (some .int) 3 := ⟨(mw 568 (by decide +kernel) (by decide +kernel)), (mw 569 (by decide +kernel) (by decide +kernel)), (mw 570 (by decide +kernel) (by decide +kernel)), (mw 10 (by decide +kernel) (by decide +kernel)), (mw 571 (by decide +kernel) (by decide +kernel)), ⟨(by decide +kernel), (by decide +kernel), (by decide +kernel)⟩⟩
theorem cv_10_129 : CV RX10 129 RX1 yX1_has cX1_has 6 (some .boolean) 3 := ⟨(mw 572 (by decide +kernel) (by decide +kernel)), (mw 573 (by decide +kernel) (by decide +kernel)), (mw 574 (by decide +kernel) (by decide +kernel)), (mw 14 (by decide +kernel) (by decide +kernel)), (mw 575 (by decide +kernel) (by decide +kernel)), ⟨(by decide +kernel), (by decide +kernel), (by decide +kernel)⟩⟩
theorem cv_10_135 : CV RX10 135 RX1 yX1_add cX1_add 4 none 3 := ⟨(mw 576 (by decide +kernel) (by decide +kernel)), (mw 199 (by decide +kernel) (by decide +kernel)), (mw 200 (by decide +kernel) (by decide +kernel)), (mw 14 (by decide +kernel) (by decide +kernel)), (mw 201 (by decide +kernel) (by decide +kernel)), ⟨(by decide +kernel), (by decide +kernel), (by decide +kernel)⟩⟩
theorem cv_L_46 : CV RL 46 RX10 yX10_bound cX10_bound 4 (some .int) 3 := ⟨(mw 579 (by decide +kernel) (by decide +kernel)), (mw 580 (by decide +kernel) (by decide +kernel)), (mw 581 (by decide +kernel) (by decide +kernel)), (mw 10 (by decide +kernel) (by decide +kernel)), (mw 582 (by decide +kernel) (by decide +kernel)), ⟨(by decide +kernel), (by decide +kernel), (by decide +kernel)⟩⟩
theorem cv_10_101 : CV RX10 101 RX6 yX6_hasVariable cX6_hasVariable 2 (some .boolean) 1 := ⟨(mw 583 (by decide +kernel) (by decide +kernel)), (mw 584 (by decide +kernel) (by decide +kernel)), (mw 585 (by decide +kernel) (by decide +kernel)), (mw 11 (by decide +kernel) (by decide +kernel)), (mw 586 (by decide +kernel) (by decide +kernel)), ⟨(by decide +kernel), (by decide +kernel), (by decide +kernel)⟩⟩
theorem cv_L_49 : CV RL 49 RX10 yX10_order cX10_order 4 (some .int) 2 := ⟨(mw 587 (by decide +kernel) (by decide +kernel)), (mw 588 (by decide +kernel) (by decide +kernel)), (mw 589 (by decide +kernel) (by decide +kernel)), (mw 10 (by decide +kernel) (by decide +kernel)), (mw 590 (by decide +kernel) (by decide +kernel)), ⟨(by decide +kernel), (by decide +kernel), (by decide +kernel)⟩⟩
theorem cv_L_52 : CV RL 52 RX10 yX10_start cX10_start 5 (some .int) 4 := ⟨(mw 591 (by decide +kernel) (by decide +kernel)), (mw 592 (by decide +kernel) (by decide +kernel)), (mw 593 (by decide +kernel) (by decide +kernel)), (mw 10 (by decide +kernel) (by decide +kernel)), (mw 594 (by decide +kernel) (by decide +kernel)), ⟨(by decide +kernel), (by decide +kernel), (by decide +kernel)⟩⟩
theorem cv_10_148 : CV RX10 148 RX4 yX4_begin cX4_begin 5 none 4 := ⟨(mw 595 (by decide +kernel) (by decide +kernel)), (mw 203 (by decide +kernel) (by decide +kernel)), (mw 204 (by decide +kernel) (by decide +kernel)), (mw 15 (by decide +kernel) (by decide +kernel)), (mw 205 (by decide +kernel) (by decide +kernel)), ⟨(by decide +kernel), (by decide +kernel), (by decide +kernel)⟩⟩
theorem cv_10_151 : CV RX10 151 RX1 yX1_forgetTaken cX1_forgetTaken 2 none 0 := ⟨(mw 596 (by decide +kernel) (by decide +kernel)), (mw 597 (by decide +kernel) (by decide +kernel)), (mw 598 (by decide +kernel) (by decide +kernel)), (mw 14 (by decide +kernel) (by decide +kernel)), (mw 599 (by decide +kernel) (by decide +kernel)), ⟨(by decide +kernel), (by decide +kernel), (by decide +kernel)⟩⟩
theorem cv_L_122 : CS RL 122 yL_poll cL_poll 21 (some .boolean) 2 := ⟨(mw 600 (by decide +kernel) (by decide +kernel)), (mw 601 (by decide +kernel) (by decide +kernel)), (mw 9 (by decide +kernel) (by decide +kernel)), (mw 602 (by decide +kernel) (by decide +kernel)), ⟨(by decide +kernel), (by decide +kernel), (by decide +kernel)⟩⟩
theorem cv_L_88 : CS RL 88 yL_trials cL_trials 13 (some .int) 2 := ⟨(mw 603 (by decide +kernel) (by decide +kernel)), (mw 604 (by decide +kernel) (by decide +kernel)), (mw 9 (by decide +kernel) (by decide +kernel)), (mw 605 (by decide +kernel) (by decide +kernel)), ⟨(by decide +kernel), (by decide +kernel), (by decide +kernel)⟩⟩
theorem cv_L_73 : CS RL 73 yL_here cL_here 1 (some .long) 1 := ⟨(mw 606 (by decide +kernel) (by decide +kernel)), (mw 607 (by decide +kernel) (by decide +kernel)), (mw 9 (by decide +kernel) (by decide +kernel)), (mw 608 (by decide +kernel) (by decide +kernel)), ⟨(by decide +kernel), (by decide +kernel), (by decide +kernel)⟩⟩
theorem cv_L_77 : CV RL 77 RX10 yX10_trialOf cX10_trialOf 3 (some .int) 2 := ⟨(mw 609 (by decide +kernel) (by decide +kernel)), (mw 610 (by decide +kernel) (by decide +kernel)), (mw 611 (by decide +kernel) (by decide +kernel)), (mw 10 (by decide +kernel) (by decide +kernel)), (mw 612 (by decide +kernel) (by decide +kernel)), ⟨(by decide +kernel), (by decide +kernel), (by decide +kernel)⟩⟩
theorem cv_10_227 : CV RX10 227 RX9 yX9_isBetter cX9_isBetter 2 (some .boolean) 1 := ⟨(mw 613 (by decide +kernel) (by decide +kernel)), (mw 525 (by decide +kernel) (by decide +kernel)), (mw 526 (by decide +kernel) (by decide +kernel)), (mw 18 (by decide +kernel) (by decide +kernel)), (mw 527 (by decide +kernel) (by decide +kernel)), ⟨(by decide +kernel), (by decide +kernel), (by decide +kernel)⟩⟩
theorem cv_L_80 : CS RL 80 yL_there cL_there 3 (some .long) 3 := ⟨(mw 614 (by decide +kernel) (by decide +kernel)), (mw 615 (by decide +kernel) (by decide +kernel)), (mw 9 (by decide +kernel) (by decide +kernel)), (mw 616 (by decide +kernel) (by decide +kernel)), ⟨(by decide +kernel), (by decide +kernel), (by decide +kernel)⟩⟩
theorem cv_L_61 : CS RL 61 yL_at cL_at 3 (some .int) 3 := ⟨(mw 617 (by decide +kernel) (by decide +kernel)), (mw 618 (by decide +kernel) (by decide +kernel)), (mw 9 (by decide +kernel) (by decide +kernel)), (mw 619 (by decide +kernel) (by decide +kernel)), ⟨(by decide +kernel), (by decide +kernel), (by decide +kernel)⟩⟩
theorem cv_L_58 : CV RL 58 RX10 yX10_directionOf cX10_directionOf 3 (some .int) 2 := ⟨(mw 620 (by decide +kernel) (by decide +kernel)), (mw 621 (by decide +kernel) (by decide +kernel)), (mw 622 (by decide +kernel) (by decide +kernel)), (mw 10 (by decide +kernel) (by decide +kernel)), (mw 623 (by decide +kernel) (by decide +kernel)), ⟨(by decide +kernel), (by decide +kernel), (by decide +kernel)⟩⟩
theorem cv_L_84 : CS RL 84 yL_canTry cL_canTry 2 (some .boolean) 2 := ⟨(mw 624 (by decide +kernel) (by decide +kernel)), (mw 625 (by decide +kernel) (by decide +kernel)), (mw 9 (by decide +kernel) (by decide +kernel)), (mw 626 (by decide +kernel) (by decide +kernel)), ⟨(by decide +kernel), (by decide +kernel), (by decide +kernel)⟩⟩
theorem cv_L_65 : CS RL 65 yL_isAllowed cL_isAllowed 6 (some .boolean) 4 := ⟨(mw 627 (by decide +kernel) (by decide +kernel)), (mw 628 (by decide +kernel) (by decide +kernel)), (mw 9 (by decide +kernel) (by decide +kernel)), (mw 629 (by decide +kernel) (by decide +kernel)), ⟨(by decide +kernel), (by decide +kernel), (by decide +kernel)⟩⟩
theorem cv_L_98 : CV RL 98 RX10 yX10_leftAt cX10_leftAt 3 (some .int) 2 := ⟨(mw 630 (by decide +kernel) (by decide +kernel)), (mw 631 (by decide +kernel) (by decide +kernel)), (mw 632 (by decide +kernel) (by decide +kernel)), (mw 10 (by decide +kernel) (by decide +kernel)), (mw 633 (by decide +kernel) (by decide +kernel)), ⟨(by decide +kernel), (by decide +kernel), (by decide +kernel)⟩⟩
theorem cv_L_114 : CS RL 114 yL_around cL_around 16 (some .boolean) 2 := ⟨(mw 634 (by decide +kernel) (by decide +kernel)), (mw 635 (by decide +kernel) (by decide +kernel)), (mw 9 (by decide +kernel) (by decide +kernel)), (mw 636 (by decide +kernel) (by decide +kernel)), ⟨(by decide +kernel), (by decide +kernel), (by decide +kernel)⟩⟩
theorem cv_L_103 : CV RL 103 RX10 yX10_around cX10_around 3 (some .int) 2 := ⟨(mw 638 (by decide +kernel) (by decide +kernel)), (mw 639 (by decide +kernel) (by decide +kernel)), (mw 640 (by decide +kernel) (by decide +kernel)), (mw 10 (by decide +kernel) (by decide +kernel)), (mw 641 (by decide +kernel) (by decide +kernel)), ⟨(by decide +kernel), (by decide +kernel), (by decide +kernel)⟩⟩
theorem cv_10_237 : CV RX10 237 RX3 yX3_findBest cX3_findBest 8 none 2 := ⟨(mw 642 (by decide +kernel) (by decide +kernel)), (mw 643 (by decide +kernel) (by decide +kernel)), (mw 644 (by decide +kernel) (by decide +kernel)), (mw 19 (by decide +kernel) (by decide +kernel)), (mw 645 (by decide +kernel) (by decide +kernel)), ⟨(by decide +kernel), (by decide +kernel), (by decide +kernel)⟩⟩
theorem cv_3_27 : CV RX3 27 RX3 yX3_consider cX3_consider 11 none 4 := ⟨(mw 647 (by decide +kernel) (by decide +kernel)), (mw 649 (by decide +kernel) (by decide +kernel)), (mw 8 (by decide +kernel) (by decide +kernel)), (mw 19 (by decide +kernel) (by decide +kernel)), (mw 650 (by decide +kernel) (by decide +kernel)), ⟨(by decide +kernel), (by decide +kernel), (by decide +kernel)⟩⟩
theorem cv_3_47 : CV RX3 47 RX0 yX0_allow cX0_allow 4 (some .boolean) 3 := ⟨(mw 651 (by decide +kernel) (by decide +kernel)), (mw 365 (by decide +kernel) (by decide +kernel)), (mw 366 (by decide +kernel) (by decide +kernel)), (mw 13 (by decide +kernel) (by decide +kernel)), (mw 367 (by decide +kernel) (by decide +kernel)), ⟨(by decide +kernel), (by decide +kernel), (by decide +kernel)⟩⟩
theorem cv_3_57 : CV RX3 57 RX7 yX7_sumAt cX7_sumAt 10 (some .long) 4 := ⟨(mw 652 (by decide +kernel) (by decide +kernel)), (mw 418 (by decide +kernel) (by decide +kernel)), (mw 419 (by decide +kernel) (by decide +kernel)), (mw 12 (by decide +kernel) (by decide +kernel)), (mw 420 (by decide +kernel) (by decide +kernel)), ⟨(by decide +kernel), (by decide +kernel), (by decide +kernel)⟩⟩
theorem cv_L_111 : CS RL 111 yL_spans cL_spans 8 (some .boolean) 1 := ⟨(mw 653 (by decide +kernel) (by decide +kernel)), (mw 654 (by decide +kernel) (by decide +kernel)), (mw 9 (by decide +kernel) (by decide +kernel)), (mw 655 (by decide +kernel) (by decide +kernel)), ⟨(by decide +kernel), (by decide +kernel), (by decide +kernel)⟩⟩
theorem kc_10_93 : Cond.constant RX10 93 (-1000002) ∈ tb := (mw 371 (by decide +kernel) (by decide +kernel))
theorem kc_10_66 : Cond.constant RX10 66 (-1000001) ∈ tb := (mw 460 (by decide +kernel) (by decide +kernel))
theorem kc_10_170 : Cond.constantLong RX10 170 (-1000001) ∈ tb := (mw 470 (by decide +kernel) (by decide +kernel))
theorem kc_10_172 : Cond.constantLong RX10 172 (20000000000) ∈ tb := (mw 471 (by decide +kernel) (by decide +kernel))
theorem kc_10_178 : Cond.constant RX10 178 (-1000004) ∈ tb := (mw 477 (by decide +kernel) (by decide +kernel))
theorem kc_L_7 : Cond.constant RL 7 (32452867) ∈ tb := (mw 531 (by decide +kernel) (by decide +kernel))
theorem kc_L_8 : Cond.constant RL 8 (49979687) ∈ tb := (mw 532 (by decide +kernel) (by decide +kernel))
theorem kc_L_9 : Cond.constant RL 9 (2147483647) ∈ tb := (mw 536 (by decide +kernel) (by decide +kernel))
theorem kc_10_88 : Cond.constant RX10 88 (-1000003) ∈ tb := (mw 548 (by decide +kernel) (by decide +kernel))
theorem kc_L_44 : Cond.constant RL 44 (-1000002) ∈ tb := (mw 577 (by decide +kernel) (by decide +kernel))
theorem kc_L_45 : Cond.constant RL 45 (-1000003) ∈ tb := (mw 578 (by decide +kernel) (by decide +kernel))
theorem kc_L_101 : Cond.constantLong RL 101 (40000000000) ∈ tb := (mw 637 (by decide +kernel) (by decide +kernel))
theorem kc_3_21 : Cond.constantLong RX3 21 (20000000000) ∈ tb := (mw 646 (by decide +kernel) (by decide +kernel))
theorem kc_L_119 : Cond.constantLong RL 119 (19999999000) ∈ tb := (mw 656 (by decide +kernel) (by decide +kernel))
theorem kc_L_121 : Cond.constant RL 121 (-1000004) ∈ tb := (mw 657 (by decide +kernel) (by decide +kernel))
theorem bp_m99 : (Int8.ofInt (-99)).toInt32 = (-99) := by decide
theorem bp_m50 : (Int8.ofInt (-50)).toInt32 = (-50) := by decide
theorem bp_m3 : (Int8.ofInt (-3)).toInt32 = (-3) := by decide
theorem ic_m1 : Int32.ofInt (-1) = (-1) := by decide
theorem ic_0 : Int32.ofInt 0 = 0 := by decide
theorem ix_0 : ix 0 = 0 := by decide
theorem ib_0 {n : Nat} (h : 0 < n) : inb 0 n := ⟨by decide, by rw [show (0 : Int32).toInt = 0 by decide]; omega⟩
theorem nn_0 : ¬ (0 : Int32) < 0 := by decide
theorem ic_1 : Int32.ofInt 1 = 1 := by decide
theorem ix_1 : ix 1 = 1 := by decide
theorem ib_1 {n : Nat} (h : 1 < n) : inb 1 n := ⟨by decide, by rw [show (1 : Int32).toInt = 1 by decide]; omega⟩
theorem nn_1 : ¬ (1 : Int32) < 0 := by decide
theorem ic_2 : Int32.ofInt 2 = 2 := by decide
theorem ix_2 : ix 2 = 2 := by decide
theorem ib_2 {n : Nat} (h : 2 < n) : inb 2 n := ⟨by decide, by rw [show (2 : Int32).toInt = 2 by decide]; omega⟩
theorem nn_2 : ¬ (2 : Int32) < 0 := by decide
theorem ic_3 : Int32.ofInt 3 = 3 := by decide
theorem ix_3 : ix 3 = 3 := by decide
theorem ib_3 {n : Nat} (h : 3 < n) : inb 3 n := ⟨by decide, by rw [show (3 : Int32).toInt = 3 by decide]; omega⟩
theorem nn_3 : ¬ (3 : Int32) < 0 := by decide
theorem ic_4 : Int32.ofInt 4 = 4 := by decide
theorem ix_4 : ix 4 = 4 := by decide
theorem ib_4 {n : Nat} (h : 4 < n) : inb 4 n := ⟨by decide, by rw [show (4 : Int32).toInt = 4 by decide]; omega⟩
theorem nn_4 : ¬ (4 : Int32) < 0 := by decide
theorem ic_5 : Int32.ofInt 5 = 5 := by decide
theorem ix_5 : ix 5 = 5 := by decide
theorem ib_5 {n : Nat} (h : 5 < n) : inb 5 n := ⟨by decide, by rw [show (5 : Int32).toInt = 5 by decide]; omega⟩
theorem nn_5 : ¬ (5 : Int32) < 0 := by decide
theorem bp_6 : (Int8.ofInt 6).toInt32 = 6 := by decide
theorem ix_6 : ix 6 = 6 := by decide
theorem ib_6 {n : Nat} (h : 6 < n) : inb 6 n := ⟨by decide, by rw [show (6 : Int32).toInt = 6 by decide]; omega⟩
theorem nn_6 : ¬ (6 : Int32) < 0 := by decide
theorem bp_7 : (Int8.ofInt 7).toInt32 = 7 := by decide
theorem ix_7 : ix 7 = 7 := by decide
theorem ib_7 {n : Nat} (h : 7 < n) : inb 7 n := ⟨by decide, by rw [show (7 : Int32).toInt = 7 by decide]; omega⟩
theorem nn_7 : ¬ (7 : Int32) < 0 := by decide
theorem bp_8 : (Int8.ofInt 8).toInt32 = 8 := by decide
theorem ix_8 : ix 8 = 8 := by decide
theorem ib_8 {n : Nat} (h : 8 < n) : inb 8 n := ⟨by decide, by rw [show (8 : Int32).toInt = 8 by decide]; omega⟩
theorem nn_8 : ¬ (8 : Int32) < 0 := by decide
theorem bp_9 : (Int8.ofInt 9).toInt32 = 9 := by decide
theorem ix_9 : ix 9 = 9 := by decide
theorem ib_9 {n : Nat} (h : 9 < n) : inb 9 n := ⟨by decide, by rw [show (9 : Int32).toInt = 9 by decide]; omega⟩
theorem nn_9 : ¬ (9 : Int32) < 0 := by decide
theorem bp_10 : (Int8.ofInt 10).toInt32 = 10 := by decide
theorem ix_10 : ix 10 = 10 := by decide
theorem ib_10 {n : Nat} (h : 10 < n) : inb 10 n := ⟨by decide, by rw [show (10 : Int32).toInt = 10 by decide]; omega⟩
theorem nn_10 : ¬ (10 : Int32) < 0 := by decide
theorem bp_11 : (Int8.ofInt 11).toInt32 = 11 := by decide
theorem ix_11 : ix 11 = 11 := by decide
theorem ib_11 {n : Nat} (h : 11 < n) : inb 11 n := ⟨by decide, by rw [show (11 : Int32).toInt = 11 by decide]; omega⟩
theorem nn_11 : ¬ (11 : Int32) < 0 := by decide
theorem bp_12 : (Int8.ofInt 12).toInt32 = 12 := by decide
theorem ix_12 : ix 12 = 12 := by decide
theorem ib_12 {n : Nat} (h : 12 < n) : inb 12 n := ⟨by decide, by rw [show (12 : Int32).toInt = 12 by decide]; omega⟩
theorem nn_12 : ¬ (12 : Int32) < 0 := by decide
theorem bp_14 : (Int8.ofInt 14).toInt32 = 14 := by decide
theorem ix_14 : ix 14 = 14 := by decide
theorem ib_14 {n : Nat} (h : 14 < n) : inb 14 n := ⟨by decide, by rw [show (14 : Int32).toInt = 14 by decide]; omega⟩
theorem nn_14 : ¬ (14 : Int32) < 0 := by decide
theorem bp_15 : (Int8.ofInt 15).toInt32 = 15 := by decide
theorem ix_15 : ix 15 = 15 := by decide
theorem ib_15 {n : Nat} (h : 15 < n) : inb 15 n := ⟨by decide, by rw [show (15 : Int32).toInt = 15 by decide]; omega⟩
theorem nn_15 : ¬ (15 : Int32) < 0 := by decide
theorem bp_16 : (Int8.ofInt 16).toInt32 = 16 := by decide
theorem ix_16 : ix 16 = 16 := by decide
theorem ib_16 {n : Nat} (h : 16 < n) : inb 16 n := ⟨by decide, by rw [show (16 : Int32).toInt = 16 by decide]; omega⟩
theorem nn_16 : ¬ (16 : Int32) < 0 := by decide
theorem bp_18 : (Int8.ofInt 18).toInt32 = 18 := by decide
theorem ix_18 : ix 18 = 18 := by decide
theorem ib_18 {n : Nat} (h : 18 < n) : inb 18 n := ⟨by decide, by rw [show (18 : Int32).toInt = 18 by decide]; omega⟩
theorem nn_18 : ¬ (18 : Int32) < 0 := by decide
theorem bp_19 : (Int8.ofInt 19).toInt32 = 19 := by decide
theorem ix_19 : ix 19 = 19 := by decide
theorem ib_19 {n : Nat} (h : 19 < n) : inb 19 n := ⟨by decide, by rw [show (19 : Int32).toInt = 19 by decide]; omega⟩
theorem nn_19 : ¬ (19 : Int32) < 0 := by decide
theorem bp_20 : (Int8.ofInt 20).toInt32 = 20 := by decide
theorem ix_20 : ix 20 = 20 := by decide
theorem ib_20 {n : Nat} (h : 20 < n) : inb 20 n := ⟨by decide, by rw [show (20 : Int32).toInt = 20 by decide]; omega⟩
theorem nn_20 : ¬ (20 : Int32) < 0 := by decide
theorem bp_21 : (Int8.ofInt 21).toInt32 = 21 := by decide
theorem ix_21 : ix 21 = 21 := by decide
theorem ib_21 {n : Nat} (h : 21 < n) : inb 21 n := ⟨by decide, by rw [show (21 : Int32).toInt = 21 by decide]; omega⟩
theorem nn_21 : ¬ (21 : Int32) < 0 := by decide
theorem bp_22 : (Int8.ofInt 22).toInt32 = 22 := by decide
theorem ix_22 : ix 22 = 22 := by decide
theorem ib_22 {n : Nat} (h : 22 < n) : inb 22 n := ⟨by decide, by rw [show (22 : Int32).toInt = 22 by decide]; omega⟩
theorem nn_22 : ¬ (22 : Int32) < 0 := by decide
theorem bp_23 : (Int8.ofInt 23).toInt32 = 23 := by decide
theorem ix_23 : ix 23 = 23 := by decide
theorem ib_23 {n : Nat} (h : 23 < n) : inb 23 n := ⟨by decide, by rw [show (23 : Int32).toInt = 23 by decide]; omega⟩
theorem nn_23 : ¬ (23 : Int32) < 0 := by decide
theorem bp_24 : (Int8.ofInt 24).toInt32 = 24 := by decide
theorem ix_24 : ix 24 = 24 := by decide
theorem ib_24 {n : Nat} (h : 24 < n) : inb 24 n := ⟨by decide, by rw [show (24 : Int32).toInt = 24 by decide]; omega⟩
theorem nn_24 : ¬ (24 : Int32) < 0 := by decide
theorem bp_30 : (Int8.ofInt 30).toInt32 = 30 := by decide
theorem ix_30 : ix 30 = 30 := by decide
theorem ib_30 {n : Nat} (h : 30 < n) : inb 30 n := ⟨by decide, by rw [show (30 : Int32).toInt = 30 by decide]; omega⟩
theorem nn_30 : ¬ (30 : Int32) < 0 := by decide
theorem bp_42 : (Int8.ofInt 42).toInt32 = 42 := by decide
theorem ix_42 : ix 42 = 42 := by decide
theorem ib_42 {n : Nat} (h : 42 < n) : inb 42 n := ⟨by decide, by rw [show (42 : Int32).toInt = 42 by decide]; omega⟩
theorem nn_42 : ¬ (42 : Int32) < 0 := by decide
theorem bp_46 : (Int8.ofInt 46).toInt32 = 46 := by decide
theorem ix_46 : ix 46 = 46 := by decide
theorem ib_46 {n : Nat} (h : 46 < n) : inb 46 n := ⟨by decide, by rw [show (46 : Int32).toInt = 46 by decide]; omega⟩
theorem nn_46 : ¬ (46 : Int32) < 0 := by decide
theorem bp_50 : (Int8.ofInt 50).toInt32 = 50 := by decide
theorem ix_50 : ix 50 = 50 := by decide
theorem ib_50 {n : Nat} (h : 50 < n) : inb 50 n := ⟨by decide, by rw [show (50 : Int32).toInt = 50 by decide]; omega⟩
theorem nn_50 : ¬ (50 : Int32) < 0 := by decide
theorem bp_60 : (Int8.ofInt 60).toInt32 = 60 := by decide
theorem ix_60 : ix 60 = 60 := by decide
theorem ib_60 {n : Nat} (h : 60 < n) : inb 60 n := ⟨by decide, by rw [show (60 : Int32).toInt = 60 by decide]; omega⟩
theorem nn_60 : ¬ (60 : Int32) < 0 := by decide
theorem bp_99 : (Int8.ofInt 99).toInt32 = 99 := by decide
theorem ix_99 : ix 99 = 99 := by decide
theorem ib_99 {n : Nat} (h : 99 < n) : inb 99 n := ⟨by decide, by rw [show (99 : Int32).toInt = 99 by decide]; omega⟩
theorem nn_99 : ¬ (99 : Int32) < 0 := by decide
theorem bp_100 : (Int8.ofInt 100).toInt32 = 100 := by decide
theorem ix_100 : ix 100 = 100 := by decide
theorem ib_100 {n : Nat} (h : 100 < n) : inb 100 n := ⟨by decide, by rw [show (100 : Int32).toInt = 100 by decide]; omega⟩
theorem nn_100 : ¬ (100 : Int32) < 0 := by decide
