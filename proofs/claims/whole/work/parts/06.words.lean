theorem fl_7_18 : FL RX7 18 7 0 := ⟨RX7, TX7, 3, rfl, by decide, uw_7, (mw 91 (by decide +kernel) (by decide +kernel))⟩
theorem pl_7_18 : PL RX7 18 7 0 .int := ⟨RX7, TX7, 3, tyX7, rfl, by decide, uw_7, (mw 91 (by decide +kernel) (by decide +kernel)), tyX7_ok, nmX7, rfl, (by decide +kernel)⟩
theorem fl_6_49 : FL RX6 49 7 0 := ⟨RX7, TX7, 3, rfl, by decide, uw_7, (mw 92 (by decide +kernel) (by decide +kernel))⟩
theorem pl_6_49 : PL RX6 49 7 0 .int := ⟨RX7, TX7, 3, tyX7, rfl, by decide, uw_7, (mw 92 (by decide +kernel) (by decide +kernel)), tyX7_ok, nmX7, rfl, (by decide +kernel)⟩
theorem fl_8_29 : FL RX8 29 7 0 := ⟨RX7, TX7, 3, rfl, by decide, uw_7, (mw 93 (by decide +kernel) (by decide +kernel))⟩
theorem pl_8_29 : PL RX8 29 7 0 .int := ⟨RX7, TX7, 3, tyX7, rfl, by decide, uw_7, (mw 93 (by decide +kernel) (by decide +kernel)), tyX7_ok, nmX7, rfl, (by decide +kernel)⟩
theorem fl_10_83 : FL RX10 83 7 0 := ⟨RX7, TX7, 3, rfl, by decide, uw_7, (mw 94 (by decide +kernel) (by decide +kernel))⟩
theorem pl_10_83 : PL RX10 83 7 0 .int := ⟨RX7, TX7, 3, tyX7, rfl, by decide, uw_7, (mw 94 (by decide +kernel) (by decide +kernel)), tyX7_ok, nmX7, rfl, (by decide +kernel)⟩
theorem fl_7_9 : FL RX7 9 7 1 := ⟨RX7, TX7, 3, rfl, by decide, uw_7, (mw 95 (by decide +kernel) (by decide +kernel))⟩
theorem fl_10_94 : FL RX10 94 7 1 := ⟨RX7, TX7, 3, rfl, by decide, uw_7, (mw 96 (by decide +kernel) (by decide +kernel))⟩
theorem fl_7_15 : FL RX7 15 7 2 := ⟨RX7, TX7, 3, rfl, by decide, uw_7, (mw 97 (by decide +kernel) (by decide +kernel))⟩
theorem fl_10_179 : FL RX10 179 7 2 := ⟨RX7, TX7, 3, rfl, by decide, uw_7, (mw 98 (by decide +kernel) (by decide +kernel))⟩
theorem fl_0_9 : FL RX0 9 0 0 := ⟨RX0, TX0, 2, rfl, by decide, uw_0, (mw 113 (by decide +kernel) (by decide +kernel))⟩
theorem fl_10_109 : FL RX10 109 0 0 := ⟨RX0, TX0, 2, rfl, by decide, uw_0, (mw 114 (by decide +kernel) (by decide +kernel))⟩
theorem fl_0_15 : FL RX0 15 0 1 := ⟨RX0, TX0, 2, rfl, by decide, uw_0, (mw 115 (by decide +kernel) (by decide +kernel))⟩
theorem fl_10_114 : FL RX10 114 0 1 := ⟨RX0, TX0, 2, rfl, by decide, uw_0, (mw 116 (by decide +kernel) (by decide +kernel))⟩
theorem fl_1_18 : FL RX1 18 1 0 := ⟨RX1, TX1, 3, rfl, by decide, uw_1, (mw 128 (by decide +kernel) (by decide +kernel))⟩
theorem pl_1_18 : PL RX1 18 1 0 .int := ⟨RX1, TX1, 3, tyX1, rfl, by decide, uw_1, (mw 128 (by decide +kernel) (by decide +kernel)), tyX1_ok, nmX1, rfl, (by decide +kernel)⟩
theorem fl_9_38 : FL RX9 38 1 0 := ⟨RX1, TX1, 3, rfl, by decide, uw_1, (mw 129 (by decide +kernel) (by decide +kernel))⟩
theorem pl_9_38 : PL RX9 38 1 0 .int := ⟨RX1, TX1, 3, tyX1, rfl, by decide, uw_1, (mw 129 (by decide +kernel) (by decide +kernel)), tyX1_ok, nmX1, rfl, (by decide +kernel)⟩
theorem fl_5_34 : FL RX5 34 1 0 := ⟨RX1, TX1, 3, rfl, by decide, uw_1, (mw 130 (by decide +kernel) (by decide +kernel))⟩
theorem pl_5_34 : PL RX5 34 1 0 .int := ⟨RX1, TX1, 3, tyX1, rfl, by decide, uw_1, (mw 130 (by decide +kernel) (by decide +kernel)), tyX1_ok, nmX1, rfl, (by decide +kernel)⟩
theorem fl_10_134 : FL RX10 134 1 0 := ⟨RX1, TX1, 3, rfl, by decide, uw_1, (mw 131 (by decide +kernel) (by decide +kernel))⟩
theorem pl_10_134 : PL RX10 134 1 0 .int := ⟨RX1, TX1, 3, tyX1, rfl, by decide, uw_1, (mw 131 (by decide +kernel) (by decide +kernel)), tyX1_ok, nmX1, rfl, (by decide +kernel)⟩
theorem fl_6_90 : FL RX6 90 1 0 := ⟨RX1, TX1, 3, rfl, by decide, uw_1, (mw 132 (by decide +kernel) (by decide +kernel))⟩
theorem pl_6_90 : PL RX6 90 1 0 .int := ⟨RX1, TX1, 3, tyX1, rfl, by decide, uw_1, (mw 132 (by decide +kernel) (by decide +kernel)), tyX1_ok, nmX1, rfl, (by decide +kernel)⟩
theorem fl_1_9 : FL RX1 9 1 1 := ⟨RX1, TX1, 3, rfl, by decide, uw_1, (mw 133 (by decide +kernel) (by decide +kernel))⟩
theorem fl_5_37 : FL RX5 37 1 1 := ⟨RX1, TX1, 3, rfl, by decide, uw_1, (mw 134 (by decide +kernel) (by decide +kernel))⟩
theorem fl_6_95 : FL RX6 95 1 1 := ⟨RX1, TX1, 3, rfl, by decide, uw_1, (mw 135 (by decide +kernel) (by decide +kernel))⟩
theorem fl_10_185 : FL RX10 185 1 1 := ⟨RX1, TX1, 3, rfl, by decide, uw_1, (mw 136 (by decide +kernel) (by decide +kernel))⟩
theorem fl_1_15 : FL RX1 15 1 2 := ⟨RX1, TX1, 3, rfl, by decide, uw_1, (mw 137 (by decide +kernel) (by decide +kernel))⟩
theorem fl_6_124 : FL RX6 124 1 2 := ⟨RX1, TX1, 3, rfl, by decide, uw_1, (mw 138 (by decide +kernel) (by decide +kernel))⟩
theorem fl_10_182 : FL RX10 182 1 2 := ⟨RX1, TX1, 3, rfl, by decide, uw_1, (mw 139 (by decide +kernel) (by decide +kernel))⟩
theorem fl_4_9 : FL RX4 9 4 0 := ⟨RX4, TX4, 9, rfl, by decide, uw_4, (mw 153 (by decide +kernel) (by decide +kernel))⟩
theorem fl_3_35 : FL RX3 35 4 0 := ⟨RX4, TX4, 9, rfl, by decide, uw_4, (mw 154 (by decide +kernel) (by decide +kernel))⟩
theorem fl_6_79 : FL RX6 79 4 0 := ⟨RX4, TX4, 9, rfl, by decide, uw_4, (mw 155 (by decide +kernel) (by decide +kernel))⟩
theorem fl_10_188 : FL RX10 188 4 0 := ⟨RX4, TX4, 9, rfl, by decide, uw_4, (mw 156 (by decide +kernel) (by decide +kernel))⟩
theorem fl_4_22 : FL RX4 22 4 1 := ⟨RX4, TX4, 9, rfl, by decide, uw_4, (mw 157 (by decide +kernel) (by decide +kernel))⟩
theorem pl_4_22 : PL RX4 22 4 1 .int := ⟨RX4, TX4, 9, tyX4, rfl, by decide, uw_4, (mw 157 (by decide +kernel) (by decide +kernel)), tyX4_ok, nmX4, rfl, (by decide +kernel)⟩
theorem fl_3_40 : FL RX3 40 4 1 := ⟨RX4, TX4, 9, rfl, by decide, uw_4, (mw 158 (by decide +kernel) (by decide +kernel))⟩
theorem pl_3_40 : PL RX3 40 4 1 .int := ⟨RX4, TX4, 9, tyX4, rfl, by decide, uw_4, (mw 158 (by decide +kernel) (by decide +kernel)), tyX4_ok, nmX4, rfl, (by decide +kernel)⟩
theorem fl_6_101 : FL RX6 101 4 1 := ⟨RX4, TX4, 9, rfl, by decide, uw_4, (mw 159 (by decide +kernel) (by decide +kernel))⟩
theorem pl_6_101 : PL RX6 101 4 1 .int := ⟨RX4, TX4, 9, tyX4, rfl, by decide, uw_4, (mw 159 (by decide +kernel) (by decide +kernel)), tyX4_ok, nmX4, rfl, (by decide +kernel)⟩
theorem fl_10_191 : FL RX10 191 4 1 := ⟨RX4, TX4, 9, rfl, by decide, uw_4, (mw 160 (by decide +kernel) (by decide +kernel))⟩
theorem pl_10_191 : PL RX10 191 4 1 .int := ⟨RX4, TX4, 9, tyX4, rfl, by decide, uw_4, (mw 160 (by decide +kernel) (by decide +kernel)), tyX4_ok, nmX4, rfl, (by decide +kernel)⟩
theorem fl_4_26 : FL RX4 26 4 2 := ⟨RX4, TX4, 9, rfl, by decide, uw_4, (mw 161 (by decide +kernel) (by decide +kernel))⟩
theorem pl_4_26 : PL RX4 26 4 2 .int := ⟨RX4, TX4, 9, tyX4, rfl, by decide, uw_4, (mw 161 (by decide +kernel) (by decide +kernel)), tyX4_ok, nmX4, rfl, (by decide +kernel)⟩
theorem fl_6_114 : FL RX6 114 4 2 := ⟨RX4, TX4, 9, rfl, by decide, uw_4, (mw 162 (by decide +kernel) (by decide +kernel))⟩
theorem pl_6_114 : PL RX6 114 4 2 .int := ⟨RX4, TX4, 9, tyX4, rfl, by decide, uw_4, (mw 162 (by decide +kernel) (by decide +kernel)), tyX4_ok, nmX4, rfl, (by decide +kernel)⟩
theorem fl_10_194 : FL RX10 194 4 2 := ⟨RX4, TX4, 9, rfl, by decide, uw_4, (mw 163 (by decide +kernel) (by decide +kernel))⟩
theorem pl_10_194 : PL RX10 194 4 2 .int := ⟨RX4, TX4, 9, tyX4, rfl, by decide, uw_4, (mw 163 (by decide +kernel) (by decide +kernel)), tyX4_ok, nmX4, rfl, (by decide +kernel)⟩
theorem fl_4_29 : FL RX4 29 4 3 := ⟨RX4, TX4, 9, rfl, by decide, uw_4, (mw 164 (by decide +kernel) (by decide +kernel))⟩
theorem pl_4_29 : PL RX4 29 4 3 .int := ⟨RX4, TX4, 9, tyX4, rfl, by decide, uw_4, (mw 164 (by decide +kernel) (by decide +kernel)), tyX4_ok, nmX4, rfl, (by decide +kernel)⟩
theorem fl_10_197 : FL RX10 197 4 3 := ⟨RX4, TX4, 9, rfl, by decide, uw_4, (mw 165 (by decide +kernel) (by decide +kernel))⟩
theorem pl_10_197 : PL RX10 197 4 3 .int := ⟨RX4, TX4, 9, tyX4, rfl, by decide, uw_4, (mw 165 (by decide +kernel) (by decide +kernel)), tyX4_ok, nmX4, rfl, (by decide +kernel)⟩
theorem fl_4_32 : FL RX4 32 4 4 := ⟨RX4, TX4, 9, rfl, by decide, uw_4, (mw 166 (by decide +kernel) (by decide +kernel))⟩
theorem pl_4_32 : PL RX4 32 4 4 .int := ⟨RX4, TX4, 9, tyX4, rfl, by decide, uw_4, (mw 166 (by decide +kernel) (by decide +kernel)), tyX4_ok, nmX4, rfl, (by decide +kernel)⟩
theorem fl_6_117 : FL RX6 117 4 4 := ⟨RX4, TX4, 9, rfl, by decide, uw_4, (mw 167 (by decide +kernel) (by decide +kernel))⟩
theorem pl_6_117 : PL RX6 117 4 4 .int := ⟨RX4, TX4, 9, tyX4, rfl, by decide, uw_4, (mw 167 (by decide +kernel) (by decide +kernel)), tyX4_ok, nmX4, rfl, (by decide +kernel)⟩
theorem fl_10_200 : FL RX10 200 4 4 := ⟨RX4, TX4, 9, rfl, by decide, uw_4, (mw 168 (by decide +kernel) (by decide +kernel))⟩
theorem pl_10_200 : PL RX10 200 4 4 .int := ⟨RX4, TX4, 9, tyX4, rfl, by decide, uw_4, (mw 168 (by decide +kernel) (by decide +kernel)), tyX4_ok, nmX4, rfl, (by decide +kernel)⟩
theorem fl_4_35 : FL RX4 35 4 5 := ⟨RX4, TX4, 9, rfl, by decide, uw_4, (mw 169 (by decide +kernel) (by decide +kernel))⟩
theorem pl_4_35 : PL RX4 35 4 5 .int := ⟨RX4, TX4, 9, tyX4, rfl, by decide, uw_4, (mw 169 (by decide +kernel) (by decide +kernel)), tyX4_ok, nmX4, rfl, (by decide +kernel)⟩
theorem fl_6_98 : FL RX6 98 4 5 := ⟨RX4, TX4, 9, rfl, by decide, uw_4, (mw 170 (by decide +kernel) (by decide +kernel))⟩
theorem pl_6_98 : PL RX6 98 4 5 .int := ⟨RX4, TX4, 9, tyX4, rfl, by decide, uw_4, (mw 170 (by decide +kernel) (by decide +kernel)), tyX4_ok, nmX4, rfl, (by decide +kernel)⟩
theorem fl_10_203 : FL RX10 203 4 5 := ⟨RX4, TX4, 9, rfl, by decide, uw_4, (mw 171 (by decide +kernel) (by decide +kernel))⟩
theorem pl_10_203 : PL RX10 203 4 5 .int := ⟨RX4, TX4, 9, tyX4, rfl, by decide, uw_4, (mw 171 (by decide +kernel) (by decide +kernel)), tyX4_ok, nmX4, rfl, (by decide +kernel)⟩
theorem fl_4_38 : FL RX4 38 4 6 := ⟨RX4, TX4, 9, rfl, by decide, uw_4, (mw 172 (by decide +kernel) (by decide +kernel))⟩
theorem pl_4_38 : PL RX4 38 4 6 .int := ⟨RX4, TX4, 9, tyX4, rfl, by decide, uw_4, (mw 172 (by decide +kernel) (by decide +kernel)), tyX4_ok, nmX4, rfl, (by decide +kernel)⟩
theorem fl_10_206 : FL RX10 206 4 6 := ⟨RX4, TX4, 9, rfl, by decide, uw_4, (mw 173 (by decide +kernel) (by decide +kernel))⟩
theorem pl_10_206 : PL RX10 206 4 6 .int := ⟨RX4, TX4, 9, tyX4, rfl, by decide, uw_4, (mw 173 (by decide +kernel) (by decide +kernel)), tyX4_ok, nmX4, rfl, (by decide +kernel)⟩
theorem fl_4_15 : FL RX4 15 4 7 := ⟨RX4, TX4, 9, rfl, by decide, uw_4, (mw 174 (by decide +kernel) (by decide +kernel))⟩
theorem fl_10_209 : FL RX10 209 4 7 := ⟨RX4, TX4, 9, rfl, by decide, uw_4, (mw 175 (by decide +kernel) (by decide +kernel))⟩
theorem fl_4_41 : FL RX4 41 4 8 := ⟨RX4, TX4, 9, rfl, by decide, uw_4, (mw 176 (by decide +kernel) (by decide +kernel))⟩
theorem pl_4_41 : PL RX4 41 4 8 .boolean := ⟨RX4, TX4, 9, tyX4, rfl, by decide, uw_4, (mw 176 (by decide +kernel) (by decide +kernel)), tyX4_ok, nmX4, rfl, (by decide +kernel)⟩
theorem fl_10_167 : FL RX10 167 4 8 := ⟨RX4, TX4, 9, rfl, by decide, uw_4, (mw 177 (by decide +kernel) (by decide +kernel))⟩
theorem pl_10_167 : PL RX10 167 4 8 .boolean := ⟨RX4, TX4, 9, tyX4, rfl, by decide, uw_4, (mw 177 (by decide +kernel) (by decide +kernel)), tyX4_ok, nmX4, rfl, (by decide +kernel)⟩
theorem fl_3_15 : FL RX3 15 6 0 := ⟨RX6, TX6, 7, rfl, by decide, uw_6, (mw 197 (by decide +kernel) (by decide +kernel))⟩
theorem pl_3_15 : PL RX3 15 6 0 .int := ⟨RX6, TX6, 7, tyX6, rfl, by decide, uw_6, (mw 197 (by decide +kernel) (by decide +kernel)), tyX6_ok, nmX6, rfl, (by decide +kernel)⟩
theorem fl_6_39 : FL RX6 39 6 0 := ⟨RX6, TX6, 7, rfl, by decide, uw_6, (mw 198 (by decide +kernel) (by decide +kernel))⟩
theorem pl_6_39 : PL RX6 39 6 0 .int := ⟨RX6, TX6, 7, tyX6, rfl, by decide, uw_6, (mw 198 (by decide +kernel) (by decide +kernel)), tyX6_ok, nmX6, rfl, (by decide +kernel)⟩
theorem fl_10_67 : FL RX10 67 6 0 := ⟨RX6, TX6, 7, rfl, by decide, uw_6, (mw 199 (by decide +kernel) (by decide +kernel))⟩
theorem pl_10_67 : PL RX10 67 6 0 .int := ⟨RX6, TX6, 7, tyX6, rfl, by decide, uw_6, (mw 199 (by decide +kernel) (by decide +kernel)), tyX6_ok, nmX6, rfl, (by decide +kernel)⟩
theorem fl_6_43 : FL RX6 43 6 1 := ⟨RX6, TX6, 7, rfl, by decide, uw_6, (mw 200 (by decide +kernel) (by decide +kernel))⟩
theorem pl_6_43 : PL RX6 43 6 1 .int := ⟨RX6, TX6, 7, tyX6, rfl, by decide, uw_6, (mw 200 (by decide +kernel) (by decide +kernel)), tyX6_ok, nmX6, rfl, (by decide +kernel)⟩
theorem fl_10_154 : FL RX10 154 6 1 := ⟨RX6, TX6, 7, rfl, by decide, uw_6, (mw 201 (by decide +kernel) (by decide +kernel))⟩
theorem pl_10_154 : PL RX10 154 6 1 .int := ⟨RX6, TX6, 7, tyX6, rfl, by decide, uw_6, (mw 201 (by decide +kernel) (by decide +kernel)), tyX6_ok, nmX6, rfl, (by decide +kernel)⟩
theorem fl_6_46 : FL RX6 46 6 2 := ⟨RX6, TX6, 7, rfl, by decide, uw_6, (mw 202 (by decide +kernel) (by decide +kernel))⟩
theorem pl_6_46 : PL RX6 46 6 2 .int := ⟨RX6, TX6, 7, tyX6, rfl, by decide, uw_6, (mw 202 (by decide +kernel) (by decide +kernel)), tyX6_ok, nmX6, rfl, (by decide +kernel)⟩
theorem fl_10_157 : FL RX10 157 6 2 := ⟨RX6, TX6, 7, rfl, by decide, uw_6, (mw 203 (by decide +kernel) (by decide +kernel))⟩
theorem pl_10_157 : PL RX10 157 6 2 .int := ⟨RX6, TX6, 7, tyX6, rfl, by decide, uw_6, (mw 203 (by decide +kernel) (by decide +kernel)), tyX6_ok, nmX6, rfl, (by decide +kernel)⟩
theorem fl_6_12 : FL RX6 12 6 3 := ⟨RX6, TX6, 7, rfl, by decide, uw_6, (mw 204 (by decide +kernel) (by decide +kernel))⟩
theorem fl_9_59 : FL RX9 59 6 3 := ⟨RX6, TX6, 7, rfl, by decide, uw_6, (mw 205 (by decide +kernel) (by decide +kernel))⟩
theorem fl_10_79 : FL RX10 79 6 3 := ⟨RX6, TX6, 7, rfl, by decide, uw_6, (mw 206 (by decide +kernel) (by decide +kernel))⟩
theorem fl_3_53 : FL RX3 53 6 3 := ⟨RX6, TX6, 7, rfl, by decide, uw_6, (mw 207 (by decide +kernel) (by decide +kernel))⟩
theorem fl_6_21 : FL RX6 21 6 4 := ⟨RX6, TX6, 7, rfl, by decide, uw_6, (mw 208 (by decide +kernel) (by decide +kernel))⟩
theorem fl_9_45 : FL RX9 45 6 4 := ⟨RX6, TX6, 7, rfl, by decide, uw_6, (mw 209 (by decide +kernel) (by decide +kernel))⟩
theorem fl_3_43 : FL RX3 43 6 4 := ⟨RX6, TX6, 7, rfl, by decide, uw_6, (mw 210 (by decide +kernel) (by decide +kernel))⟩
theorem fl_10_105 : FL RX10 105 6 4 := ⟨RX6, TX6, 7, rfl, by decide, uw_6, (mw 211 (by decide +kernel) (by decide +kernel))⟩
theorem fl_6_28 : FL RX6 28 6 5 := ⟨RX6, TX6, 7, rfl, by decide, uw_6, (mw 212 (by decide +kernel) (by decide +kernel))⟩
theorem fl_9_35 : FL RX9 35 6 5 := ⟨RX6, TX6, 7, rfl, by decide, uw_6, (mw 213 (by decide +kernel) (by decide +kernel))⟩
theorem fl_10_125 : FL RX10 125 6 5 := ⟨RX6, TX6, 7, rfl, by decide, uw_6, (mw 214 (by decide +kernel) (by decide +kernel))⟩
theorem fl_6_35 : FL RX6 35 6 6 := ⟨RX6, TX6, 7, rfl, by decide, uw_6, (mw 215 (by decide +kernel) (by decide +kernel))⟩
theorem fl_3_31 : FL RX3 31 6 6 := ⟨RX6, TX6, 7, rfl, by decide, uw_6, (mw 216 (by decide +kernel) (by decide +kernel))⟩
theorem fl_10_139 : FL RX10 139 6 6 := ⟨RX6, TX6, 7, rfl, by decide, uw_6, (mw 217 (by decide +kernel) (by decide +kernel))⟩
theorem fl_2_31 : FL RX2 31 2 0 := ⟨RX2, TX2, 5, rfl, by decide, uw_2, (mw 269 (by decide +kernel) (by decide +kernel))⟩
theorem pl_2_31 : PL RX2 31 2 0 .int := ⟨RX2, TX2, 5, tyX2, rfl, by decide, uw_2, (mw 269 (by decide +kernel) (by decide +kernel)), tyX2_ok, nmX2, rfl, (by decide +kernel)⟩
theorem fl_10_212 : FL RX10 212 2 0 := ⟨RX2, TX2, 5, rfl, by decide, uw_2, (mw 270 (by decide +kernel) (by decide +kernel))⟩
theorem pl_10_212 : PL RX10 212 2 0 .int := ⟨RX2, TX2, 5, tyX2, rfl, by decide, uw_2, (mw 270 (by decide +kernel) (by decide +kernel)), tyX2_ok, nmX2, rfl, (by decide +kernel)⟩
theorem fl_2_12 : FL RX2 12 2 1 := ⟨RX2, TX2, 5, rfl, by decide, uw_2, (mw 271 (by decide +kernel) (by decide +kernel))⟩
theorem fl_2_18 : FL RX2 18 2 2 := ⟨RX2, TX2, 5, rfl, by decide, uw_2, (mw 272 (by decide +kernel) (by decide +kernel))⟩
theorem fl_2_21 : FL RX2 21 2 3 := ⟨RX2, TX2, 5, rfl, by decide, uw_2, (mw 273 (by decide +kernel) (by decide +kernel))⟩
theorem fl_2_24 : FL RX2 24 2 4 := ⟨RX2, TX2, 5, rfl, by decide, uw_2, (mw 274 (by decide +kernel) (by decide +kernel))⟩
theorem fl_8_25 : FL RX8 25 8 0 := ⟨RX8, TX8, 10, rfl, by decide, uw_8, (mw 294 (by decide +kernel) (by decide +kernel))⟩
theorem pl_8_25 : PL RX8 25 8 0 .int := ⟨RX8, TX8, 10, tyX8, rfl, by decide, uw_8, (mw 294 (by decide +kernel) (by decide +kernel)), tyX8_ok, nmX8, rfl, (by decide +kernel)⟩
theorem fl_10_213 : FL RX10 213 8 0 := ⟨RX8, TX8, 10, rfl, by decide, uw_8, (mw 295 (by decide +kernel) (by decide +kernel))⟩
theorem pl_10_213 : PL RX10 213 8 0 .int := ⟨RX8, TX8, 10, tyX8, rfl, by decide, uw_8, (mw 295 (by decide +kernel) (by decide +kernel)), tyX8_ok, nmX8, rfl, (by decide +kernel)⟩
theorem fl_8_9 : FL RX8 9 8 1 := ⟨RX8, TX8, 10, rfl, by decide, uw_8, (mw 296 (by decide +kernel) (by decide +kernel))⟩
theorem fl_8_18 : FL RX8 18 8 2 := ⟨RX8, TX8, 10, rfl, by decide, uw_8, (mw 297 (by decide +kernel) (by decide +kernel))⟩
theorem fl_10_261 : FL RX10 261 8 2 := ⟨RX8, TX8, 10, rfl, by decide, uw_8, (mw 298 (by decide +kernel) (by decide +kernel))⟩
theorem fl_8_32 : FL RX8 32 8 3 := ⟨RX8, TX8, 10, rfl, by decide, uw_8, (mw 299 (by decide +kernel) (by decide +kernel))⟩
theorem pl_8_32 : PL RX8 32 8 3 .int := ⟨RX8, TX8, 10, tyX8, rfl, by decide, uw_8, (mw 299 (by decide +kernel) (by decide +kernel)), tyX8_ok, nmX8, rfl, (by decide +kernel)⟩
theorem fl_10_255 : FL RX10 255 8 3 := ⟨RX8, TX8, 10, rfl, by decide, uw_8, (mw 300 (by decide +kernel) (by decide +kernel))⟩
theorem pl_10_255 : PL RX10 255 8 3 .int := ⟨RX8, TX8, 10, tyX8, rfl, by decide, uw_8, (mw 300 (by decide +kernel) (by decide +kernel)), tyX8_ok, nmX8, rfl, (by decide +kernel)⟩
theorem fl_8_35 : FL RX8 35 8 4 := ⟨RX8, TX8, 10, rfl, by decide, uw_8, (mw 301 (by decide +kernel) (by decide +kernel))⟩
theorem pl_8_35 : PL RX8 35 8 4 .int := ⟨RX8, TX8, 10, tyX8, rfl, by decide, uw_8, (mw 301 (by decide +kernel) (by decide +kernel)), tyX8_ok, nmX8, rfl, (by decide +kernel)⟩
theorem fl_10_258 : FL RX10 258 8 4 := ⟨RX8, TX8, 10, rfl, by decide, uw_8, (mw 302 (by decide +kernel) (by decide +kernel))⟩
theorem pl_10_258 : PL RX10 258 8 4 .int := ⟨RX8, TX8, 10, tyX8, rfl, by decide, uw_8, (mw 302 (by decide +kernel) (by decide +kernel)), tyX8_ok, nmX8, rfl, (by decide +kernel)⟩
theorem fl_8_80 : FL RX8 80 8 5 := ⟨RX8, TX8, 10, rfl, by decide, uw_8, (mw 303 (by decide +kernel) (by decide +kernel))⟩
theorem pl_8_80 : PL RX8 80 8 5 .boolean := ⟨RX8, TX8, 10, tyX8, rfl, by decide, uw_8, (mw 303 (by decide +kernel) (by decide +kernel)), tyX8_ok, nmX8, rfl, (by decide +kernel)⟩
theorem fl_8_70 : FL RX8 70 8 6 := ⟨RX8, TX8, 10, rfl, by decide, uw_8, (mw 304 (by decide +kernel) (by decide +kernel))⟩
theorem pl_8_70 : PL RX8 70 8 6 .int := ⟨RX8, TX8, 10, tyX8, rfl, by decide, uw_8, (mw 304 (by decide +kernel) (by decide +kernel)), tyX8_ok, nmX8, rfl, (by decide +kernel)⟩
theorem fl_8_73 : FL RX8 73 8 7 := ⟨RX8, TX8, 10, rfl, by decide, uw_8, (mw 305 (by decide +kernel) (by decide +kernel))⟩
theorem pl_8_73 : PL RX8 73 8 7 .int := ⟨RX8, TX8, 10, tyX8, rfl, by decide, uw_8, (mw 305 (by decide +kernel) (by decide +kernel)), tyX8_ok, nmX8, rfl, (by decide +kernel)⟩
theorem fl_8_67 : FL RX8 67 8 8 := ⟨RX8, TX8, 10, rfl, by decide, uw_8, (mw 306 (by decide +kernel) (by decide +kernel))⟩
theorem pl_8_67 : PL RX8 67 8 8 .int := ⟨RX8, TX8, 10, tyX8, rfl, by decide, uw_8, (mw 306 (by decide +kernel) (by decide +kernel)), tyX8_ok, nmX8, rfl, (by decide +kernel)⟩
theorem fl_8_22 : FL RX8 22 8 9 := ⟨RX8, TX8, 10, rfl, by decide, uw_8, (mw 307 (by decide +kernel) (by decide +kernel))⟩
theorem fl_9_22 : FL RX9 22 9 0 := ⟨RX9, TX9, 6, rfl, by decide, uw_9, (mw 335 (by decide +kernel) (by decide +kernel))⟩
theorem pl_9_22 : PL RX9 22 9 0 .int := ⟨RX9, TX9, 6, tyX9, rfl, by decide, uw_9, (mw 335 (by decide +kernel) (by decide +kernel)), tyX9_ok, nmX9, rfl, (by decide +kernel)⟩
theorem fl_10_224 : FL RX10 224 9 0 := ⟨RX9, TX9, 6, rfl, by decide, uw_9, (mw 336 (by decide +kernel) (by decide +kernel))⟩
theorem pl_10_224 : PL RX10 224 9 0 .int := ⟨RX9, TX9, 6, tyX9, rfl, by decide, uw_9, (mw 336 (by decide +kernel) (by decide +kernel)), tyX9_ok, nmX9, rfl, (by decide +kernel)⟩
theorem fl_9_9 : FL RX9 9 9 1 := ⟨RX9, TX9, 6, rfl, by decide, uw_9, (mw 337 (by decide +kernel) (by decide +kernel))⟩
theorem fl_10_225 : FL RX10 225 9 1 := ⟨RX9, TX9, 6, rfl, by decide, uw_9, (mw 338 (by decide +kernel) (by decide +kernel))⟩
theorem fl_9_15 : FL RX9 15 9 2 := ⟨RX9, TX9, 6, rfl, by decide, uw_9, (mw 339 (by decide +kernel) (by decide +kernel))⟩
theorem fl_9_19 : FL RX9 19 9 3 := ⟨RX9, TX9, 6, rfl, by decide, uw_9, (mw 340 (by decide +kernel) (by decide +kernel))⟩
theorem fl_9_32 : FL RX9 32 9 4 := ⟨RX9, TX9, 6, rfl, by decide, uw_9, (mw 341 (by decide +kernel) (by decide +kernel))⟩
theorem pl_9_32 : PL RX9 32 9 4 .long := ⟨RX9, TX9, 6, tyX9, rfl, by decide, uw_9, (mw 341 (by decide +kernel) (by decide +kernel)), tyX9_ok, nmX9, rfl, (by decide +kernel)⟩
theorem fl_9_76 : FL RX9 76 9 5 := ⟨RX9, TX9, 6, rfl, by decide, uw_9, (mw 342 (by decide +kernel) (by decide +kernel))⟩
theorem pl_9_76 : PL RX9 76 9 5 .int := ⟨RX9, TX9, 6, tyX9, rfl, by decide, uw_9, (mw 342 (by decide +kernel) (by decide +kernel)), tyX9_ok, nmX9, rfl, (by decide +kernel)⟩
theorem fl_6_120 : FL RX6 120 9 5 := ⟨RX9, TX9, 6, rfl, by decide, uw_9, (mw 343 (by decide +kernel) (by decide +kernel))⟩
theorem pl_6_120 : PL RX6 120 9 5 .int := ⟨RX9, TX9, 6, tyX9, rfl, by decide, uw_9, (mw 343 (by decide +kernel) (by decide +kernel)), tyX9_ok, nmX9, rfl, (by decide +kernel)⟩
theorem fl_3_9 : FL RX3 9 3 0 := ⟨RX3, TX3, 2, rfl, by decide, uw_3, (mw 364 (by decide +kernel) (by decide +kernel))⟩
theorem fl_10_240 : FL RX10 240 3 0 := ⟨RX3, TX3, 2, rfl, by decide, uw_3, (mw 365 (by decide +kernel) (by decide +kernel))⟩
theorem fl_3_23 : FL RX3 23 3 1 := ⟨RX3, TX3, 2, rfl, by decide, uw_3, (mw 366 (by decide +kernel) (by decide +kernel))⟩
theorem pl_3_23 : PL RX3 23 3 1 .long := ⟨RX3, TX3, 2, tyX3, rfl, by decide, uw_3, (mw 366 (by decide +kernel) (by decide +kernel)), tyX3_ok, nmX3, rfl, (by decide +kernel)⟩
theorem fl_5_22 : FL RX5 22 5 0 := ⟨RX5, TX5, 3, rfl, by decide, uw_5, (mw 378 (by decide +kernel) (by decide +kernel))⟩
theorem pl_5_22 : PL RX5 22 5 0 .int := ⟨RX5, TX5, 3, tyX5, rfl, by decide, uw_5, (mw 378 (by decide +kernel) (by decide +kernel)), tyX5_ok, nmX5, rfl, (by decide +kernel)⟩
theorem fl_5_9 : FL RX5 9 5 1 := ⟨RX5, TX5, 3, rfl, by decide, uw_5, (mw 379 (by decide +kernel) (by decide +kernel))⟩
theorem fl_5_15 : FL RX5 15 5 2 := ⟨RX5, TX5, 3, rfl, by decide, uw_5, (mw 380 (by decide +kernel) (by decide +kernel))⟩
theorem fl_10_10 : FL RX10 10 10 0 := ⟨RX10, TX10, 8, rfl, by decide, uw_10, (mw 388 (by decide +kernel) (by decide +kernel))⟩
theorem fl_10_23 : FL RX10 23 10 1 := ⟨RX10, TX10, 8, rfl, by decide, uw_10, (mw 389 (by decide +kernel) (by decide +kernel))⟩
theorem fl_10_27 : FL RX10 27 10 2 := ⟨RX10, TX10, 8, rfl, by decide, uw_10, (mw 390 (by decide +kernel) (by decide +kernel))⟩
theorem fl_10_30 : FL RX10 30 10 3 := ⟨RX10, TX10, 8, rfl, by decide, uw_10, (mw 391 (by decide +kernel) (by decide +kernel))⟩
theorem pl_10_30 : PL RX10 30 10 3 .boolean := ⟨RX10, TX10, 8, tyX10, rfl, by decide, uw_10, (mw 391 (by decide +kernel) (by decide +kernel)), tyX10_ok, nmX10, rfl, (by decide +kernel)⟩
theorem fl_10_37 : FL RX10 37 10 4 := ⟨RX10, TX10, 8, rfl, by decide, uw_10, (mw 392 (by decide +kernel) (by decide +kernel))⟩
theorem fl_10_44 : FL RX10 44 10 5 := ⟨RX10, TX10, 8, rfl, by decide, uw_10, (mw 393 (by decide +kernel) (by decide +kernel))⟩
theorem fl_10_51 : FL RX10 51 10 6 := ⟨RX10, TX10, 8, rfl, by decide, uw_10, (mw 394 (by decide +kernel) (by decide +kernel))⟩
theorem fl_10_58 : FL RX10 58 10 7 := ⟨RX10, TX10, 8, rfl, by decide, uw_10, (mw 395 (by decide +kernel) (by decide +kernel))⟩
theorem fl_11_7 : FL RX11 7 11 0 := ⟨RX11, TX11, 15, rfl, by decide, uw_11, (mw 778 (by decide +kernel) (by decide +kernel))⟩
theorem fl_11_13 : FL RX11 13 11 1 := ⟨RX11, TX11, 15, rfl, by decide, uw_11, (mw 779 (by decide +kernel) (by decide +kernel))⟩
theorem fl_11_16 : FL RX11 16 11 2 := ⟨RX11, TX11, 15, rfl, by decide, uw_11, (mw 780 (by decide +kernel) (by decide +kernel))⟩
theorem fl_11_36 : FL RX11 36 11 3 := ⟨RX11, TX11, 15, rfl, by decide, uw_11, (mw 781 (by decide +kernel) (by decide +kernel))⟩
theorem pl_11_36 : PL RX11 36 11 3 .int := ⟨RX11, TX11, 15, tyX11, rfl, by decide, uw_11, (mw 781 (by decide +kernel) (by decide +kernel)), tyX11_ok, nmX11, rfl, (by decide +kernel)⟩
theorem fl_11_41 : FL RX11 41 11 4 := ⟨RX11, TX11, 15, rfl, by decide, uw_11, (mw 782 (by decide +kernel) (by decide +kernel))⟩
theorem pl_11_41 : PL RX11 41 11 4 .boolean := ⟨RX11, TX11, 15, tyX11, rfl, by decide, uw_11, (mw 782 (by decide +kernel) (by decide +kernel)), tyX11_ok, nmX11, rfl, (by decide +kernel)⟩
theorem fl_11_19 : FL RX11 19 11 5 := ⟨RX11, TX11, 15, rfl, by decide, uw_11, (mw 783 (by decide +kernel) (by decide +kernel))⟩
theorem fl_11_152 : FL RX11 152 11 6 := ⟨RX11, TX11, 15, rfl, by decide, uw_11, (mw 784 (by decide +kernel) (by decide +kernel))⟩
theorem pl_11_152 : PL RX11 152 11 6 .int := ⟨RX11, TX11, 15, tyX11, rfl, by decide, uw_11, (mw 784 (by decide +kernel) (by decide +kernel)), tyX11_ok, nmX11, rfl, (by decide +kernel)⟩
theorem fl_11_23 : FL RX11 23 11 7 := ⟨RX11, TX11, 15, rfl, by decide, uw_11, (mw 785 (by decide +kernel) (by decide +kernel))⟩
theorem fl_11_121 : FL RX11 121 11 8 := ⟨RX11, TX11, 15, rfl, by decide, uw_11, (mw 786 (by decide +kernel) (by decide +kernel))⟩
theorem pl_11_121 : PL RX11 121 11 8 .int := ⟨RX11, TX11, 15, tyX11, rfl, by decide, uw_11, (mw 786 (by decide +kernel) (by decide +kernel)), tyX11_ok, nmX11, rfl, (by decide +kernel)⟩
theorem fl_11_26 : FL RX11 26 11 9 := ⟨RX11, TX11, 15, rfl, by decide, uw_11, (mw 787 (by decide +kernel) (by decide +kernel))⟩
theorem fl_11_29 : FL RX11 29 11 10 := ⟨RX11, TX11, 15, rfl, by decide, uw_11, (mw 788 (by decide +kernel) (by decide +kernel))⟩
theorem fl_11_188 : FL RX11 188 11 11 := ⟨RX11, TX11, 15, rfl, by decide, uw_11, (mw 789 (by decide +kernel) (by decide +kernel))⟩
theorem pl_11_188 : PL RX11 188 11 11 .int := ⟨RX11, TX11, 15, tyX11, rfl, by decide, uw_11, (mw 789 (by decide +kernel) (by decide +kernel)), tyX11_ok, nmX11, rfl, (by decide +kernel)⟩
theorem fl_11_173 : FL RX11 173 11 12 := ⟨RX11, TX11, 15, rfl, by decide, uw_11, (mw 790 (by decide +kernel) (by decide +kernel))⟩
theorem pl_11_173 : PL RX11 173 11 12 .int := ⟨RX11, TX11, 15, tyX11, rfl, by decide, uw_11, (mw 790 (by decide +kernel) (by decide +kernel)), tyX11_ok, nmX11, rfl, (by decide +kernel)⟩
theorem fl_11_176 : FL RX11 176 11 13 := ⟨RX11, TX11, 15, rfl, by decide, uw_11, (mw 791 (by decide +kernel) (by decide +kernel))⟩
theorem pl_11_176 : PL RX11 176 11 13 .int := ⟨RX11, TX11, 15, tyX11, rfl, by decide, uw_11, (mw 791 (by decide +kernel) (by decide +kernel)), tyX11_ok, nmX11, rfl, (by decide +kernel)⟩
theorem fl_11_170 : FL RX11 170 11 14 := ⟨RX11, TX11, 15, rfl, by decide, uw_11, (mw 792 (by decide +kernel) (by decide +kernel))⟩
theorem pl_11_170 : PL RX11 170 11 14 .int := ⟨RX11, TX11, 15, tyX11, rfl, by decide, uw_11, (mw 792 (by decide +kernel) (by decide +kernel)), tyX11_ok, nmX11, rfl, (by decide +kernel)⟩
theorem cv_10_16 : CV RX10 16 RX6 yX6_reset cX6_reset 2 none 1 := ⟨(mw 233 (by decide +kernel) (by decide +kernel)), (mw 234 (by decide +kernel) (by decide +kernel)), (mw 235 (by decide +kernel) (by decide +kernel)), (mw 58 (by decide +kernel) (by decide +kernel)), (mw 236 (by decide +kernel) (by decide +kernel)), ⟨(by decide +kernel), (by decide +kernel), (by decide +kernel)⟩⟩
theorem cv_6_52 : CV RX6 52 RX0 yX0_reset cX0_reset 2 none 0 := ⟨(mw 237 (by decide +kernel) (by decide +kernel)), (mw 238 (by decide +kernel) (by decide +kernel)), (mw 239 (by decide +kernel) (by decide +kernel)), (mw 60 (by decide +kernel) (by decide +kernel)), (mw 240 (by decide +kernel) (by decide +kernel)), ⟨(by decide +kernel), (by decide +kernel), (by decide +kernel)⟩⟩
theorem cv_6_55 : CV RX6 55 RX1 yX1_reset cX1_reset 3 none 1 := ⟨(mw 241 (by decide +kernel) (by decide +kernel)), (mw 242 (by decide +kernel) (by decide +kernel)), (mw 243 (by decide +kernel) (by decide +kernel)), (mw 61 (by decide +kernel) (by decide +kernel)), (mw 244 (by decide +kernel) (by decide +kernel)), ⟨(by decide +kernel), (by decide +kernel), (by decide +kernel)⟩⟩
theorem cv_1_22 : CV RX1 22 RX1 yX1_addAlong cX1_addAlong 3 none 2 := ⟨(mw 245 (by decide +kernel) (by decide +kernel)), (mw 247 (by decide +kernel) (by decide +kernel)), (mw 0 (by decide +kernel) (by decide +kernel)), (mw 61 (by decide +kernel) (by decide +kernel)), (mw 248 (by decide +kernel) (by decide +kernel)), ⟨(by decide +kernel), (by decide +kernel), (by decide +kernel)⟩⟩
theorem cv_1_26 : CV RX1 26 RX1 yX1_add cX1_add 4 none 3 := ⟨(mw 249 (by decide +kernel) (by decide +kernel)), (mw 250 (by decide +kernel) (by decide +kernel)), (mw 251 (by decide +kernel) (by decide +kernel)), (mw 61 (by decide +kernel) (by decide +kernel)), (mw 252 (by decide +kernel) (by decide +kernel)), ⟨(by decide +kernel), (by decide +kernel), (by decide +kernel)⟩⟩
theorem cv_6_58 : CV RX6 58 RX4 yX4_begin cX4_begin 5 none 4 := ⟨(mw 253 (by decide +kernel) (by decide +kernel)), (mw 254 (by decide +kernel) (by decide +kernel)), (mw 255 (by decide +kernel) (by decide +kernel)), (mw 62 (by decide +kernel) (by decide +kernel)), (mw 256 (by decide +kernel) (by decide +kernel)), ⟨(by decide +kernel), (by decide +kernel), (by decide +kernel)⟩⟩
theorem cv_4_18 : CV RX4 18 RX4 yX4_moveTo cX4_moveTo 4 none 3 := ⟨(mw 257 (by decide +kernel) (by decide +kernel)), (mw 259 (by decide +kernel) (by decide +kernel)), (mw 1 (by decide +kernel) (by decide +kernel)), (mw 62 (by decide +kernel) (by decide +kernel)), (mw 260 (by decide +kernel) (by decide +kernel)), ⟨(by decide +kernel), (by decide +kernel), (by decide +kernel)⟩⟩
theorem cv_L_13 : CV RL 13 RX10 yX10_variables cX10_variables 3 (some .int) 1 := ⟨(mw 413 (by decide +kernel) (by decide +kernel)), (mw 414 (by decide +kernel) (by decide +kernel)), (mw 415 (by decide +kernel) (by decide +kernel)), (mw 57 (by decide +kernel) (by decide +kernel)), (mw 416 (by decide +kernel) (by decide +kernel)), ⟨(by decide +kernel), (by decide +kernel), (by decide +kernel)⟩⟩
theorem cv_10_62 : CS RX10 62 yX10_within cX10_within 3 (some .boolean) 3 := ⟨(mw 417 (by decide +kernel) (by decide +kernel)), (mw 418 (by decide +kernel) (by decide +kernel)), (mw 57 (by decide +kernel) (by decide +kernel)), (mw 419 (by decide +kernel) (by decide +kernel)), ⟨(by decide +kernel), (by decide +kernel), (by decide +kernel)⟩⟩
theorem cv_10_71 : CV RX10 71 RX2 yX2_push cX2_push 2 none 1 := ⟨(mw 421 (by decide +kernel) (by decide +kernel)), (mw 422 (by decide +kernel) (by decide +kernel)), (mw 423 (by decide +kernel) (by decide +kernel)), (mw 63 (by decide +kernel) (by decide +kernel)), (mw 424 (by decide +kernel) (by decide +kernel)), ⟨(by decide +kernel), (by decide +kernel), (by decide +kernel)⟩⟩
theorem cv_2_27 : CV RX2 27 RX6 yX6_copyFrom cX6_copyFrom 2 none 1 := ⟨(mw 425 (by decide +kernel) (by decide +kernel)), (mw 426 (by decide +kernel) (by decide +kernel)), (mw 427 (by decide +kernel) (by decide +kernel)), (mw 58 (by decide +kernel) (by decide +kernel)), (mw 428 (by decide +kernel) (by decide +kernel)), ⟨(by decide +kernel), (by decide +kernel), (by decide +kernel)⟩⟩
theorem cv_6_62 : CV RX6 62 RX7 yX7_copyFrom cX7_copyFrom 2 none 1 := ⟨(mw 429 (by decide +kernel) (by decide +kernel)), (mw 430 (by decide +kernel) (by decide +kernel)), (mw 431 (by decide +kernel) (by decide +kernel)), (mw 59 (by decide +kernel) (by decide +kernel)), (mw 432 (by decide +kernel) (by decide +kernel)), ⟨(by decide +kernel), (by decide +kernel), (by decide +kernel)⟩⟩
theorem cm_7_22 : Cond.methodLink RX7 22 arraycopyName ∈ tb ∧ Cond.native arraycopyName ∈ tb ∧ Cond.static arraycopyName ∈ tb ∧ Cond.initialized "java/lang/System" ∈ tb := ⟨(mw 433 (by decide +kernel) (by decide +kernel)), (mw 435 (by decide +kernel) (by decide +kernel)), (mw 434 (by decide +kernel) (by decide +kernel)), (mw 69 (by decide +kernel) (by decide +kernel))⟩
theorem cv_6_66 : CV RX6 66 RX0 yX0_copyFrom cX0_copyFrom 2 none 1 := ⟨(mw 436 (by decide +kernel) (by decide +kernel)), (mw 437 (by decide +kernel) (by decide +kernel)), (mw 438 (by decide +kernel) (by decide +kernel)), (mw 60 (by decide +kernel) (by decide +kernel)), (mw 439 (by decide +kernel) (by decide +kernel)), ⟨(by decide +kernel), (by decide +kernel), (by decide +kernel)⟩⟩
theorem cm_0_18 : Cond.methodLink RX0 18 arraycopyName ∈ tb ∧ Cond.native arraycopyName ∈ tb ∧ Cond.static arraycopyName ∈ tb ∧ Cond.initialized "java/lang/System" ∈ tb := ⟨(mw 440 (by decide +kernel) (by decide +kernel)), (mw 435 (by decide +kernel) (by decide +kernel)), (mw 434 (by decide +kernel) (by decide +kernel)), (mw 69 (by decide +kernel) (by decide +kernel))⟩
theorem cv_6_69 : CV RX6 69 RX1 yX1_copyFrom cX1_copyFrom 2 none 1 := ⟨(mw 441 (by decide +kernel) (by decide +kernel)), (mw 442 (by decide +kernel) (by decide +kernel)), (mw 443 (by decide +kernel) (by decide +kernel)), (mw 61 (by decide +kernel) (by decide +kernel)), (mw 444 (by decide +kernel) (by decide +kernel)), ⟨(by decide +kernel), (by decide +kernel), (by decide +kernel)⟩⟩
theorem cm_1_30 : Cond.methodLink RX1 30 arraycopyName ∈ tb ∧ Cond.native arraycopyName ∈ tb ∧ Cond.static arraycopyName ∈ tb ∧ Cond.initialized "java/lang/System" ∈ tb := ⟨(mw 445 (by decide +kernel) (by decide +kernel)), (mw 435 (by decide +kernel) (by decide +kernel)), (mw 434 (by decide +kernel) (by decide +kernel)), (mw 69 (by decide +kernel) (by decide +kernel))⟩
theorem cv_6_72 : CV RX6 72 RX4 yX4_copyFrom cX4_copyFrom 2 none 1 := ⟨(mw 446 (by decide +kernel) (by decide +kernel)), (mw 447 (by decide +kernel) (by decide +kernel)), (mw 448 (by decide +kernel) (by decide +kernel)), (mw 62 (by decide +kernel) (by decide +kernel)), (mw 449 (by decide +kernel) (by decide +kernel)), ⟨(by decide +kernel), (by decide +kernel), (by decide +kernel)⟩⟩
theorem cm_4_45 : Cond.methodLink RX4 45 arraycopyName ∈ tb ∧ Cond.native arraycopyName ∈ tb ∧ Cond.static arraycopyName ∈ tb ∧ Cond.initialized "java/lang/System" ∈ tb := ⟨(mw 450 (by decide +kernel) (by decide +kernel)), (mw 435 (by decide +kernel) (by decide +kernel)), (mw 434 (by decide +kernel) (by decide +kernel)), (mw 69 (by decide +kernel) (by decide +kernel))⟩
theorem cm_2_35 : Cond.methodLink RX2 35 Lib.Math.min.name ∈ tb ∧ Cond.static Lib.Math.min.name ∈ tb ∧ Cond.initialized "java/lang/Math" ∈ tb ∧ Cond.code Lib.Math.min.name Lib.Math.min.code 2 (some .int) ∈ tb := ⟨(mw 451 (by decide +kernel) (by decide +kernel)), (mw 452 (by decide +kernel) (by decide +kernel)), (mw 70 (by decide +kernel) (by decide +kernel)), (mw 453 (by decide +kernel) (by decide +kernel))⟩
theorem cv_L_18 : CV RL 18 RX10 yX10_term cX10_term 5 (some .int) 4 := ⟨(mw 454 (by decide +kernel) (by decide +kernel)), (mw 455 (by decide +kernel) (by decide +kernel)), (mw 456 (by decide +kernel) (by decide +kernel)), (mw 57 (by decide +kernel) (by decide +kernel)), (mw 457 (by decide +kernel) (by decide +kernel)), ⟨(by decide +kernel), (by decide +kernel), (by decide +kernel)⟩⟩
theorem cv_10_75 : CV RX10 75 RX6 yX6_fit cX6_fit 6 (some .boolean) 5 := ⟨(mw 458 (by decide +kernel) (by decide +kernel)), (mw 459 (by decide +kernel) (by decide +kernel)), (mw 460 (by decide +kernel) (by decide +kernel)), (mw 58 (by decide +kernel) (by decide +kernel)), (mw 461 (by decide +kernel) (by decide +kernel)), ⟨(by decide +kernel), (by decide +kernel), (by decide +kernel)⟩⟩
theorem cv_6_75 : CN RX6 75 yX10_within "PollMeshes" cX10_within 3 (some .boolean) 3 := ⟨List.mem_of_getElem? (i := 12) (by decide +kernel), (mw 418 (by decide +kernel) (by decide +kernel)), (mw 57 (by decide +kernel) (by decide +kernel)), (mw 419 (by decide +kernel) (by decide +kernel)), ⟨(by decide +kernel), (by decide +kernel), (by decide +kernel)⟩⟩
theorem cv_10_89 : CV RX10 89 RX7 yX7_add cX7_add 5 none 4 := ⟨(mw 464 (by decide +kernel) (by decide +kernel)), (mw 465 (by decide +kernel) (by decide +kernel)), (mw 466 (by decide +kernel) (by decide +kernel)), (mw 59 (by decide +kernel) (by decide +kernel)), (mw 467 (by decide +kernel) (by decide +kernel)), ⟨(by decide +kernel), (by decide +kernel), (by decide +kernel)⟩⟩
theorem cv_L_23 : CV RL 23 RX10 yX10_dropTerm cX10_dropTerm 3 (some .int) 1 := ⟨(mw 468 (by decide +kernel) (by decide +kernel)), (mw 469 (by decide +kernel) (by decide +kernel)), (mw 470 (by decide +kernel) (by decide +kernel)), (mw 57 (by decide +kernel) (by decide +kernel)), (mw 471 (by decide +kernel) (by decide +kernel)), ⟨(by decide +kernel), (by decide +kernel), (by decide +kernel)⟩⟩
theorem cv_10_98 : CV RX10 98 RX7 yX7_remove cX7_remove 2 none 1 := ⟨(mw 473 (by decide +kernel) (by decide +kernel)), (mw 474 (by decide +kernel) (by decide +kernel)), (mw 475 (by decide +kernel) (by decide +kernel)), (mw 59 (by decide +kernel) (by decide +kernel)), (mw 476 (by decide +kernel) (by decide +kernel)), ⟨(by decide +kernel), (by decide +kernel), (by decide +kernel)⟩⟩
theorem cv_7_28 : CN RX7 28 yX10_closeGap "PollMeshes" cX10_closeGap 5 none 4 := ⟨List.mem_of_getElem? (i := 13) (by decide +kernel), (mw 478 (by decide +kernel) (by decide +kernel)), (mw 57 (by decide +kernel) (by decide +kernel)), (mw 479 (by decide +kernel) (by decide +kernel)), ⟨(by decide +kernel), (by decide +kernel), (by decide +kernel)⟩⟩
theorem cv_L_27 : CV RL 27 RX10 yX10_bound cX10_bound 4 (some .int) 3 := ⟨(mw 480 (by decide +kernel) (by decide +kernel)), (mw 481 (by decide +kernel) (by decide +kernel)), (mw 482 (by decide +kernel) (by decide +kernel)), (mw 57 (by decide +kernel) (by decide +kernel)), (mw 483 (by decide +kernel) (by decide +kernel)), ⟨(by decide +kernel), (by decide +kernel), (by decide +kernel)⟩⟩
theorem cv_10_101 : CV RX10 101 RX6 yX6_hasVariable cX6_hasVariable 2 (some .boolean) 1 := ⟨(mw 484 (by decide +kernel) (by decide +kernel)), (mw 485 (by decide +kernel) (by decide +kernel)), (mw 486 (by decide +kernel) (by decide +kernel)), (mw 58 (by decide +kernel) (by decide +kernel)), (mw 487 (by decide +kernel) (by decide +kernel)), ⟨(by decide +kernel), (by decide +kernel), (by decide +kernel)⟩⟩
theorem cv_10_117 : CV RX10 117 RX6 yX6_placeIsAllowed cX6_placeIsAllowed 1 (some .boolean) 0 := ⟨(mw 488 (by decide +kernel) (by decide +kernel)), (mw 489 (by decide +kernel) (by decide +kernel)), (mw 490 (by decide +kernel) (by decide +kernel)), (mw 58 (by decide +kernel) (by decide +kernel)), (mw 491 (by decide +kernel) (by decide +kernel)), ⟨(by decide +kernel), (by decide +kernel), (by decide +kernel)⟩⟩
theorem cv_6_83 : CV RX6 83 RX0 yX0_allow cX0_allow 4 (some .boolean) 3 := ⟨(mw 492 (by decide +kernel) (by decide +kernel)), (mw 493 (by decide +kernel) (by decide +kernel)), (mw 494 (by decide +kernel) (by decide +kernel)), (mw 60 (by decide +kernel) (by decide +kernel)), (mw 495 (by decide +kernel) (by decide +kernel)), ⟨(by decide +kernel), (by decide +kernel), (by decide +kernel)⟩⟩
theorem cv_0_24 : CN RX0 24 yX10_within "PollMeshes" cX10_within 3 (some .boolean) 3 := ⟨List.mem_of_getElem? (i := 14) (by decide +kernel), (mw 418 (by decide +kernel) (by decide +kernel)), (mw 57 (by decide +kernel) (by decide +kernel)), (mw 419 (by decide +kernel) (by decide +kernel)), ⟨(by decide +kernel), (by decide +kernel), (by decide +kernel)⟩⟩
theorem cv_10_121 : CS RX10 121 yX10_oneIf cX10_oneIf 1 (some .int) 1 := ⟨(mw 497 (by decide +kernel) (by decide +kernel)), (mw 498 (by decide +kernel) (by decide +kernel)), (mw 57 (by decide +kernel) (by decide +kernel)), (mw 499 (by decide +kernel) (by decide +kernel)), ⟨(by decide +kernel), (by decide +kernel), (by decide +kernel)⟩⟩
theorem cv_L_32 : CV RL 32 RX10 yX10_direction cX10_direction 4 (some .int) 3 := ⟨(mw 500 (by decide +kernel) (by decide +kernel)), (mw 501 (by decide +kernel) (by decide +kernel)), (mw 502 (by decide +kernel) (by decide +kernel)), (mw 57 (by decide +kernel) (by decide +kernel)), (mw 503 (by decide +kernel) (by decide +kernel)), ⟨(by decide +kernel), (by decide +kernel), (by decide +kernel)⟩⟩
theorem cv_10_129 : CV RX10 129 RX1 yX1_has cX1_has 6 (some .boolean) 3 := ⟨(mw 504 (by decide +kernel) (by decide +kernel)), (mw 505 (by decide +kernel) (by decide +kernel)), (mw 506 (by decide +kernel) (by decide +kernel)), (mw 61 (by decide +kernel) (by decide +kernel)), (mw 507 (by decide +kernel) (by decide +kernel)), ⟨(by decide +kernel), (by decide +kernel), (by decide +kernel)⟩⟩
theorem cv_10_135 : CV RX10 135 RX1 yX1_add cX1_add 4 none 3 := ⟨(mw 508 (by decide +kernel) (by decide +kernel)), (mw 250 (by decide +kernel) (by decide +kernel)), (mw 251 (by decide +kernel) (by decide +kernel)), (mw 61 (by decide +kernel) (by decide +kernel)), (mw 252 (by decide +kernel) (by decide +kernel)), ⟨(by decide +kernel), (by decide +kernel), (by decide +kernel)⟩⟩
theorem cv_L_36 : CV RL 36 RX10 yX10_dropDirection cX10_dropDirection 2 (some .int) 1 := ⟨(mw 509 (by decide +kernel) (by decide +kernel)), (mw 510 (by decide +kernel) (by decide +kernel)), (mw 511 (by decide +kernel) (by decide +kernel)), (mw 57 (by decide +kernel) (by decide +kernel)), (mw 512 (by decide +kernel) (by decide +kernel)), ⟨(by decide +kernel), (by decide +kernel), (by decide +kernel)⟩⟩
theorem cv_10_138 : CV RX10 138 RX1 yX1_remove cX1_remove 2 none 1 := ⟨(mw 513 (by decide +kernel) (by decide +kernel)), (mw 514 (by decide +kernel) (by decide +kernel)), (mw 515 (by decide +kernel) (by decide +kernel)), (mw 61 (by decide +kernel) (by decide +kernel)), (mw 516 (by decide +kernel) (by decide +kernel)), ⟨(by decide +kernel), (by decide +kernel), (by decide +kernel)⟩⟩
theorem cv_1_36 : CN RX1 36 yX10_closeGap "PollMeshes" cX10_closeGap 5 none 4 := ⟨List.mem_of_getElem? (i := 15) (by decide +kernel), (mw 478 (by decide +kernel) (by decide +kernel)), (mw 57 (by decide +kernel) (by decide +kernel)), (mw 479 (by decide +kernel) (by decide +kernel)), ⟨(by decide +kernel), (by decide +kernel), (by decide +kernel)⟩⟩
theorem cv_10_143 : CV RX10 143 RX4 yX4_forgetDirection cX4_forgetDirection 2 none 1 := ⟨(mw 518 (by decide +kernel) (by decide +kernel)), (mw 519 (by decide +kernel) (by decide +kernel)), (mw 520 (by decide +kernel) (by decide +kernel)), (mw 62 (by decide +kernel) (by decide +kernel)), (mw 521 (by decide +kernel) (by decide +kernel)), ⟨(by decide +kernel), (by decide +kernel), (by decide +kernel)⟩⟩
theorem cv_L_40 : CV RL 40 RX10 yX10_start cX10_start 5 (some .int) 4 := ⟨(mw 522 (by decide +kernel) (by decide +kernel)), (mw 523 (by decide +kernel) (by decide +kernel)), (mw 524 (by decide +kernel) (by decide +kernel)), (mw 57 (by decide +kernel) (by decide +kernel)), (mw 525 (by decide +kernel) (by decide +kernel)), ⟨(by decide +kernel), (by decide +kernel), (by decide +kernel)⟩⟩
theorem cv_10_148 : CV RX10 148 RX4 yX4_begin cX4_begin 5 none 4 := ⟨(mw 526 (by decide +kernel) (by decide +kernel)), (mw 254 (by decide +kernel) (by decide +kernel)), (mw 255 (by decide +kernel) (by decide +kernel)), (mw 62 (by decide +kernel) (by decide +kernel)), (mw 256 (by decide +kernel) (by decide +kernel)), ⟨(by decide +kernel), (by decide +kernel), (by decide +kernel)⟩⟩
theorem cv_10_151 : CV RX10 151 RX1 yX1_forgetTaken cX1_forgetTaken 2 none 0 := ⟨(mw 527 (by decide +kernel) (by decide +kernel)), (mw 528 (by decide +kernel) (by decide +kernel)), (mw 529 (by decide +kernel) (by decide +kernel)), (mw 61 (by decide +kernel) (by decide +kernel)), (mw 530 (by decide +kernel) (by decide +kernel)), ⟨(by decide +kernel), (by decide +kernel), (by decide +kernel)⟩⟩
theorem cv_L_44 : CV RL 44 RX10 yX10_order cX10_order 4 (some .int) 2 := ⟨(mw 531 (by decide +kernel) (by decide +kernel)), (mw 532 (by decide +kernel) (by decide +kernel)), (mw 533 (by decide +kernel) (by decide +kernel)), (mw 57 (by decide +kernel) (by decide +kernel)), (mw 534 (by decide +kernel) (by decide +kernel)), ⟨(by decide +kernel), (by decide +kernel), (by decide +kernel)⟩⟩
theorem cv_L_49 : CV RL 49 RX10 yX10_poll cX10_poll 1 (some .int) 0 := ⟨(mw 535 (by decide +kernel) (by decide +kernel)), (mw 536 (by decide +kernel) (by decide +kernel)), (mw 537 (by decide +kernel) (by decide +kernel)), (mw 57 (by decide +kernel) (by decide +kernel)), (mw 538 (by decide +kernel) (by decide +kernel)), ⟨(by decide +kernel), (by decide +kernel), (by decide +kernel)⟩⟩
theorem cv_10_160 : CV RX10 160 RX6 yX6_canPoll cX6_canPoll 1 (some .boolean) 0 := ⟨(mw 539 (by decide +kernel) (by decide +kernel)), (mw 540 (by decide +kernel) (by decide +kernel)), (mw 541 (by decide +kernel) (by decide +kernel)), (mw 58 (by decide +kernel) (by decide +kernel)), (mw 542 (by decide +kernel) (by decide +kernel)), ⟨(by decide +kernel), (by decide +kernel), (by decide +kernel)⟩⟩
theorem cv_6_86 : CV RX6 86 RX6 yX6_placeIsAllowed cX6_placeIsAllowed 1 (some .boolean) 0 := ⟨(mw 543 (by decide +kernel) (by decide +kernel)), (mw 489 (by decide +kernel) (by decide +kernel)), (mw 490 (by decide +kernel) (by decide +kernel)), (mw 58 (by decide +kernel) (by decide +kernel)), (mw 491 (by decide +kernel) (by decide +kernel)), ⟨(by decide +kernel), (by decide +kernel), (by decide +kernel)⟩⟩
theorem cv_10_163 : CV RX10 163 RX6 yX6_pollOnce cX6_pollOnce 4 (some .int) 1 := ⟨(mw 544 (by decide +kernel) (by decide +kernel)), (mw 545 (by decide +kernel) (by decide +kernel)), (mw 546 (by decide +kernel) (by decide +kernel)), (mw 58 (by decide +kernel) (by decide +kernel)), (mw 547 (by decide +kernel) (by decide +kernel)), ⟨(by decide +kernel), (by decide +kernel), (by decide +kernel)⟩⟩
theorem cv_6_104 : CV RX6 104 RX9 yX9_gather cX9_gather 7 none 2 := ⟨(mw 548 (by decide +kernel) (by decide +kernel)), (mw 549 (by decide +kernel) (by decide +kernel)), (mw 550 (by decide +kernel) (by decide +kernel)), (mw 65 (by decide +kernel) (by decide +kernel)), (mw 551 (by decide +kernel) (by decide +kernel)), ⟨(by decide +kernel), (by decide +kernel), (by decide +kernel)⟩⟩
theorem cv_9_26 : CV RX9 26 RX6 yX6_valueHere cX6_valueHere 1 (some .long) 0 := ⟨(mw 552 (by decide +kernel) (by decide +kernel)), (mw 553 (by decide +kernel) (by decide +kernel)), (mw 554 (by decide +kernel) (by decide +kernel)), (mw 58 (by decide +kernel) (by decide +kernel)), (mw 555 (by decide +kernel) (by decide +kernel)), ⟨(by decide +kernel), (by decide +kernel), (by decide +kernel)⟩⟩
theorem cv_6_91 : CV RX6 91 RX7 yX7_sumAt cX7_sumAt 10 (some .long) 4 := ⟨(mw 556 (by decide +kernel) (by decide +kernel)), (mw 557 (by decide +kernel) (by decide +kernel)), (mw 558 (by decide +kernel) (by decide +kernel)), (mw 59 (by decide +kernel) (by decide +kernel)), (mw 559 (by decide +kernel) (by decide +kernel)), ⟨(by decide +kernel), (by decide +kernel), (by decide +kernel)⟩⟩
theorem cv_7_32 : CS RX7 32 yX7_raised cX7_raised 5 (some .long) 2 := ⟨(mw 560 (by decide +kernel) (by decide +kernel)), (mw 561 (by decide +kernel) (by decide +kernel)), (mw 59 (by decide +kernel) (by decide +kernel)), (mw 562 (by decide +kernel) (by decide +kernel)), ⟨(by decide +kernel), (by decide +kernel), (by decide +kernel)⟩⟩
theorem cv_9_41 : CV RX9 41 RX6 yX6_trialNumber cX6_trialNumber 4 (some .int) 3 := ⟨(mw 563 (by decide +kernel) (by decide +kernel)), (mw 564 (by decide +kernel) (by decide +kernel)), (mw 565 (by decide +kernel) (by decide +kernel)), (mw 58 (by decide +kernel) (by decide +kernel)), (mw 566 (by decide +kernel) (by decide +kernel)), ⟨(by decide +kernel), (by decide +kernel), (by decide +kernel)⟩⟩
theorem cv_9_49 : CV RX9 49 RX0 yX0_allow cX0_allow 4 (some .boolean) 3 := ⟨(mw 567 (by decide +kernel) (by decide +kernel)), (mw 493 (by decide +kernel) (by decide +kernel)), (mw 494 (by decide +kernel) (by decide +kernel)), (mw 60 (by decide +kernel) (by decide +kernel)), (mw 495 (by decide +kernel) (by decide +kernel)), ⟨(by decide +kernel), (by decide +kernel), (by decide +kernel)⟩⟩
theorem cv_9_55 : CV RX9 55 RX6 yX6_rankOf cX6_rankOf 5 (some .long) 4 := ⟨(mw 568 (by decide +kernel) (by decide +kernel)), (mw 569 (by decide +kernel) (by decide +kernel)), (mw 570 (by decide +kernel) (by decide +kernel)), (mw 58 (by decide +kernel) (by decide +kernel)), (mw 571 (by decide +kernel) (by decide +kernel)), ⟨(by decide +kernel), (by decide +kernel), (by decide +kernel)⟩⟩
theorem cv_9_63 : CV RX9 63 RX7 yX7_sumAt cX7_sumAt 10 (some .long) 4 := ⟨(mw 572 (by decide +kernel) (by decide +kernel)), (mw 557 (by decide +kernel) (by decide +kernel)), (mw 558 (by decide +kernel) (by decide +kernel)), (mw 59 (by decide +kernel) (by decide +kernel)), (mw 559 (by decide +kernel) (by decide +kernel)), ⟨(by decide +kernel), (by decide +kernel), (by decide +kernel)⟩⟩
theorem cv_9_68 : CV RX9 68 RX9 yX9_insert cX9_insert 7 none 3 := ⟨(mw 573 (by decide +kernel) (by decide +kernel)), (mw 575 (by decide +kernel) (by decide +kernel)), (mw 2 (by decide +kernel) (by decide +kernel)), (mw 65 (by decide +kernel) (by decide +kernel)), (mw 576 (by decide +kernel) (by decide +kernel)), ⟨(by decide +kernel), (by decide +kernel), (by decide +kernel)⟩⟩
theorem cv_6_110 : CV RX6 110 RX9 yX9_chooseBetter cX9_chooseBetter 6 (some .int) 1 := ⟨(mw 577 (by decide +kernel) (by decide +kernel)), (mw 578 (by decide +kernel) (by decide +kernel)), (mw 579 (by decide +kernel) (by decide +kernel)), (mw 65 (by decide +kernel) (by decide +kernel)), (mw 580 (by decide +kernel) (by decide +kernel)), ⟨(by decide +kernel), (by decide +kernel), (by decide +kernel)⟩⟩
theorem cv_6_121 : CV RX6 121 RX4 yX4_fail cX4_fail 1 none 0 := ⟨(mw 581 (by decide +kernel) (by decide +kernel)), (mw 582 (by decide +kernel) (by decide +kernel)), (mw 583 (by decide +kernel) (by decide +kernel)), (mw 62 (by decide +kernel) (by decide +kernel)), (mw 584 (by decide +kernel) (by decide +kernel)), ⟨(by decide +kernel), (by decide +kernel), (by decide +kernel)⟩⟩
theorem cm_4_57 : Cond.methodLink RX4 57 Lib.Math.max.name ∈ tb ∧ Cond.static Lib.Math.max.name ∈ tb ∧ Cond.initialized "java/lang/Math" ∈ tb ∧ Cond.code Lib.Math.max.name Lib.Math.max.code 2 (some .int) ∈ tb := ⟨(mw 585 (by decide +kernel) (by decide +kernel)), (mw 586 (by decide +kernel) (by decide +kernel)), (mw 70 (by decide +kernel) (by decide +kernel)), (mw 587 (by decide +kernel) (by decide +kernel))⟩
theorem cv_6_127 : CV RX6 127 RX6 yX6_trialNumber cX6_trialNumber 4 (some .int) 3 := ⟨(mw 588 (by decide +kernel) (by decide +kernel)), (mw 564 (by decide +kernel) (by decide +kernel)), (mw 565 (by decide +kernel) (by decide +kernel)), (mw 58 (by decide +kernel) (by decide +kernel)), (mw 566 (by decide +kernel) (by decide +kernel)), ⟨(by decide +kernel), (by decide +kernel), (by decide +kernel)⟩⟩
theorem cv_6_131 : CV RX6 131 RX4 yX4_succeed cX4_succeed 5 none 4 := ⟨(mw 589 (by decide +kernel) (by decide +kernel)), (mw 590 (by decide +kernel) (by decide +kernel)), (mw 591 (by decide +kernel) (by decide +kernel)), (mw 62 (by decide +kernel) (by decide +kernel)), (mw 592 (by decide +kernel) (by decide +kernel)), ⟨(by decide +kernel), (by decide +kernel), (by decide +kernel)⟩⟩
theorem cm_4_51 : Cond.methodLink RX4 51 Lib.Math.min.name ∈ tb ∧ Cond.static Lib.Math.min.name ∈ tb ∧ Cond.initialized "java/lang/Math" ∈ tb ∧ Cond.code Lib.Math.min.name Lib.Math.min.code 2 (some .int) ∈ tb := ⟨(mw 593 (by decide +kernel) (by decide +kernel)), (mw 452 (by decide +kernel) (by decide +kernel)), (mw 70 (by decide +kernel) (by decide +kernel)), (mw 453 (by decide +kernel) (by decide +kernel))⟩
theorem cv_L_54 : CV RL 54 RX10 yX10_run cX10_run 3 (some .int) 1 := ⟨(mw 594 (by decide +kernel) (by decide +kernel)), (mw 595 (by decide +kernel) (by decide +kernel)), (mw 596 (by decide +kernel) (by decide +kernel)), (mw 57 (by decide +kernel) (by decide +kernel)), (mw 597 (by decide +kernel) (by decide +kernel)), ⟨(by decide +kernel), (by decide +kernel), (by decide +kernel)⟩⟩
theorem cv_L_58 : CV RL 58 RX10 yX10_value cX10_value 6 (some .long) 4 := ⟨(mw 598 (by decide +kernel) (by decide +kernel)), (mw 599 (by decide +kernel) (by decide +kernel)), (mw 600 (by decide +kernel) (by decide +kernel)), (mw 57 (by decide +kernel) (by decide +kernel)), (mw 601 (by decide +kernel) (by decide +kernel)), ⟨(by decide +kernel), (by decide +kernel), (by decide +kernel)⟩⟩
theorem cv_10_174 : CV RX10 174 RX7 yX7_sumAt cX7_sumAt 10 (some .long) 4 := ⟨(mw 604 (by decide +kernel) (by decide +kernel)), (mw 557 (by decide +kernel) (by decide +kernel)), (mw 558 (by decide +kernel) (by decide +kernel)), (mw 59 (by decide +kernel) (by decide +kernel)), (mw 559 (by decide +kernel) (by decide +kernel)), ⟨(by decide +kernel), (by decide +kernel), (by decide +kernel)⟩⟩
theorem cv_L_63 : CV RL 63 RX10 yX10_termOf cX10_termOf 3 (some .int) 2 := ⟨(mw 605 (by decide +kernel) (by decide +kernel)), (mw 606 (by decide +kernel) (by decide +kernel)), (mw 607 (by decide +kernel) (by decide +kernel)), (mw 57 (by decide +kernel) (by decide +kernel)), (mw 608 (by decide +kernel) (by decide +kernel)), ⟨(by decide +kernel), (by decide +kernel), (by decide +kernel)⟩⟩
theorem cv_L_67 : CV RL 67 RX10 yX10_directionOf cX10_directionOf 3 (some .int) 2 := ⟨(mw 610 (by decide +kernel) (by decide +kernel)), (mw 611 (by decide +kernel) (by decide +kernel)), (mw 612 (by decide +kernel) (by decide +kernel)), (mw 57 (by decide +kernel) (by decide +kernel)), (mw 613 (by decide +kernel) (by decide +kernel)), ⟨(by decide +kernel), (by decide +kernel), (by decide +kernel)⟩⟩
theorem cv_L_71 : CV RL 71 RX10 yX10_searchOf cX10_searchOf 2 (some .int) 1 := ⟨(mw 614 (by decide +kernel) (by decide +kernel)), (mw 615 (by decide +kernel) (by decide +kernel)), (mw 616 (by decide +kernel) (by decide +kernel)), (mw 57 (by decide +kernel) (by decide +kernel)), (mw 617 (by decide +kernel) (by decide +kernel)), ⟨(by decide +kernel), (by decide +kernel), (by decide +kernel)⟩⟩
theorem cv_L_75 : CV RL 75 RX10 yX10_leftAt cX10_leftAt 3 (some .int) 2 := ⟨(mw 618 (by decide +kernel) (by decide +kernel)), (mw 619 (by decide +kernel) (by decide +kernel)), (mw 620 (by decide +kernel) (by decide +kernel)), (mw 57 (by decide +kernel) (by decide +kernel)), (mw 621 (by decide +kernel) (by decide +kernel)), ⟨(by decide +kernel), (by decide +kernel), (by decide +kernel)⟩⟩
theorem cv_L_79 : CV RL 79 RX10 yX10_count cX10_count 2 (some .int) 1 := ⟨(mw 622 (by decide +kernel) (by decide +kernel)), (mw 623 (by decide +kernel) (by decide +kernel)), (mw 624 (by decide +kernel) (by decide +kernel)), (mw 57 (by decide +kernel) (by decide +kernel)), (mw 625 (by decide +kernel) (by decide +kernel)), ⟨(by decide +kernel), (by decide +kernel), (by decide +kernel)⟩⟩
theorem cv_10_216 : CV RX10 216 RX10 yX10_boundOf cX10_boundOf 2 (some .int) 1 := ⟨(mw 626 (by decide +kernel) (by decide +kernel)), (mw 628 (by decide +kernel) (by decide +kernel)), (mw 3 (by decide +kernel) (by decide +kernel)), (mw 57 (by decide +kernel) (by decide +kernel)), (mw 629 (by decide +kernel) (by decide +kernel)), ⟨(by decide +kernel), (by decide +kernel), (by decide +kernel)⟩⟩
theorem cv_L_83 : CV RL 83 RX10 yX10_trialOf cX10_trialOf 3 (some .int) 2 := ⟨(mw 630 (by decide +kernel) (by decide +kernel)), (mw 631 (by decide +kernel) (by decide +kernel)), (mw 632 (by decide +kernel) (by decide +kernel)), (mw 57 (by decide +kernel) (by decide +kernel)), (mw 633 (by decide +kernel) (by decide +kernel)), ⟨(by decide +kernel), (by decide +kernel), (by decide +kernel)⟩⟩
theorem cv_10_220 : CV RX10 220 RX9 yX9_gather cX9_gather 7 none 2 := ⟨(mw 634 (by decide +kernel) (by decide +kernel)), (mw 549 (by decide +kernel) (by decide +kernel)), (mw 550 (by decide +kernel) (by decide +kernel)), (mw 65 (by decide +kernel) (by decide +kernel)), (mw 551 (by decide +kernel) (by decide +kernel)), ⟨(by decide +kernel), (by decide +kernel), (by decide +kernel)⟩⟩
theorem cv_10_227 : CV RX10 227 RX9 yX9_isBetter cX9_isBetter 2 (some .boolean) 1 := ⟨(mw 635 (by decide +kernel) (by decide +kernel)), (mw 636 (by decide +kernel) (by decide +kernel)), (mw 637 (by decide +kernel) (by decide +kernel)), (mw 65 (by decide +kernel) (by decide +kernel)), (mw 638 (by decide +kernel) (by decide +kernel)), ⟨(by decide +kernel), (by decide +kernel), (by decide +kernel)⟩⟩
theorem cv_L_87 : CV RL 87 RX10 yX10_spans cX10_spans 1 (some .int) 0 := ⟨(mw 639 (by decide +kernel) (by decide +kernel)), (mw 640 (by decide +kernel) (by decide +kernel)), (mw 641 (by decide +kernel) (by decide +kernel)), (mw 57 (by decide +kernel) (by decide +kernel)), (mw 642 (by decide +kernel) (by decide +kernel)), ⟨(by decide +kernel), (by decide +kernel), (by decide +kernel)⟩⟩
theorem cv_10_230 : CV RX10 230 RX5 yX5_isWhole cX5_isWhole 6 (some .boolean) 2 := ⟨(mw 643 (by decide +kernel) (by decide +kernel)), (mw 644 (by decide +kernel) (by decide +kernel)), (mw 645 (by decide +kernel) (by decide +kernel)), (mw 67 (by decide +kernel) (by decide +kernel)), (mw 646 (by decide +kernel) (by decide +kernel)), ⟨(by decide +kernel), (by decide +kernel), (by decide +kernel)⟩⟩
theorem cv_5_18 : CV RX5 18 RX5 yX5_fill cX5_fill 4 none 2 := ⟨(mw 647 (by decide +kernel) (by decide +kernel)), (mw 649 (by decide +kernel) (by decide +kernel)), (mw 4 (by decide +kernel) (by decide +kernel)), (mw 67 (by decide +kernel) (by decide +kernel)), (mw 650 (by decide +kernel) (by decide +kernel)), ⟨(by decide +kernel), (by decide +kernel), (by decide +kernel)⟩⟩
theorem cm_5_40 : Cond.methodLink RX5 40 arraycopyName ∈ tb ∧ Cond.native arraycopyName ∈ tb ∧ Cond.static arraycopyName ∈ tb ∧ Cond.initialized "java/lang/System" ∈ tb := ⟨(mw 651 (by decide +kernel) (by decide +kernel)), (mw 435 (by decide +kernel) (by decide +kernel)), (mw 434 (by decide +kernel) (by decide +kernel)), (mw 69 (by decide +kernel) (by decide +kernel))⟩
theorem cv_5_46 : CV RX5 46 RX5 yX5_addAlong cX5_addAlong 4 none 2 := ⟨(mw 652 (by decide +kernel) (by decide +kernel)), (mw 654 (by decide +kernel) (by decide +kernel)), (mw 5 (by decide +kernel) (by decide +kernel)), (mw 67 (by decide +kernel) (by decide +kernel)), (mw 655 (by decide +kernel) (by decide +kernel)), ⟨(by decide +kernel), (by decide +kernel), (by decide +kernel)⟩⟩
theorem cv_5_26 : CV RX5 26 RX5 yX5_findNormal cX5_findNormal 3 (some .boolean) 2 := ⟨(mw 656 (by decide +kernel) (by decide +kernel)), (mw 658 (by decide +kernel) (by decide +kernel)), (mw 6 (by decide +kernel) (by decide +kernel)), (mw 67 (by decide +kernel) (by decide +kernel)), (mw 659 (by decide +kernel) (by decide +kernel)), ⟨(by decide +kernel), (by decide +kernel), (by decide +kernel)⟩⟩
theorem cv_5_30 : CV RX5 30 RX5 yX5_hasRowsOnBothSides cX5_hasRowsOnBothSides 6 (some .boolean) 0 := ⟨(mw 660 (by decide +kernel) (by decide +kernel)), (mw 662 (by decide +kernel) (by decide +kernel)), (mw 7 (by decide +kernel) (by decide +kernel)), (mw 67 (by decide +kernel) (by decide +kernel)), (mw 663 (by decide +kernel) (by decide +kernel)), ⟨(by decide +kernel), (by decide +kernel), (by decide +kernel)⟩⟩
theorem cv_L_91 : CV RL 91 RX10 yX10_stuck cX10_stuck 2 (some .int) 1 := ⟨(mw 664 (by decide +kernel) (by decide +kernel)), (mw 665 (by decide +kernel) (by decide +kernel)), (mw 666 (by decide +kernel) (by decide +kernel)), (mw 57 (by decide +kernel) (by decide +kernel)), (mw 667 (by decide +kernel) (by decide +kernel)), ⟨(by decide +kernel), (by decide +kernel), (by decide +kernel)⟩⟩
theorem cv_10_234 : CV RX10 234 RX9 yX9_noneIsBetter cX9_noneIsBetter 2 (some .boolean) 0 := ⟨(mw 668 (by decide +kernel) (by decide +kernel)), (mw 669 (by decide +kernel) (by decide +kernel)), (mw 670 (by decide +kernel) (by decide +kernel)), (mw 65 (by decide +kernel) (by decide +kernel)), (mw 671 (by decide +kernel) (by decide +kernel)), ⟨(by decide +kernel), (by decide +kernel), (by decide +kernel)⟩⟩
theorem cv_9_72 : CV RX9 72 RX9 yX9_isBetter cX9_isBetter 2 (some .boolean) 1 := ⟨(mw 672 (by decide +kernel) (by decide +kernel)), (mw 636 (by decide +kernel) (by decide +kernel)), (mw 637 (by decide +kernel) (by decide +kernel)), (mw 65 (by decide +kernel) (by decide +kernel)), (mw 638 (by decide +kernel) (by decide +kernel)), ⟨(by decide +kernel), (by decide +kernel), (by decide +kernel)⟩⟩
theorem cv_L_95 : CV RL 95 RX10 yX10_around cX10_around 3 (some .int) 2 := ⟨(mw 673 (by decide +kernel) (by decide +kernel)), (mw 674 (by decide +kernel) (by decide +kernel)), (mw 675 (by decide +kernel) (by decide +kernel)), (mw 57 (by decide +kernel) (by decide +kernel)), (mw 676 (by decide +kernel) (by decide +kernel)), ⟨(by decide +kernel), (by decide +kernel), (by decide +kernel)⟩⟩
theorem cv_10_237 : CV RX10 237 RX3 yX3_findBest cX3_findBest 8 none 2 := ⟨(mw 677 (by decide +kernel) (by decide +kernel)), (mw 678 (by decide +kernel) (by decide +kernel)), (mw 679 (by decide +kernel) (by decide +kernel)), (mw 66 (by decide +kernel) (by decide +kernel)), (mw 680 (by decide +kernel) (by decide +kernel)), ⟨(by decide +kernel), (by decide +kernel), (by decide +kernel)⟩⟩
theorem cv_3_27 : CV RX3 27 RX3 yX3_consider cX3_consider 11 none 4 := ⟨(mw 682 (by decide +kernel) (by decide +kernel)), (mw 684 (by decide +kernel) (by decide +kernel)), (mw 8 (by decide +kernel) (by decide +kernel)), (mw 66 (by decide +kernel) (by decide +kernel)), (mw 685 (by decide +kernel) (by decide +kernel)), ⟨(by decide +kernel), (by decide +kernel), (by decide +kernel)⟩⟩
theorem cv_3_47 : CV RX3 47 RX0 yX0_allow cX0_allow 4 (some .boolean) 3 := ⟨(mw 686 (by decide +kernel) (by decide +kernel)), (mw 493 (by decide +kernel) (by decide +kernel)), (mw 494 (by decide +kernel) (by decide +kernel)), (mw 60 (by decide +kernel) (by decide +kernel)), (mw 495 (by decide +kernel) (by decide +kernel)), ⟨(by decide +kernel), (by decide +kernel), (by decide +kernel)⟩⟩
theorem cv_3_57 : CV RX3 57 RX7 yX7_sumAt cX7_sumAt 10 (some .long) 4 := ⟨(mw 687 (by decide +kernel) (by decide +kernel)), (mw 557 (by decide +kernel) (by decide +kernel)), (mw 558 (by decide +kernel) (by decide +kernel)), (mw 59 (by decide +kernel) (by decide +kernel)), (mw 559 (by decide +kernel) (by decide +kernel)), ⟨(by decide +kernel), (by decide +kernel), (by decide +kernel)⟩⟩
theorem cv_L_99 : CV RL 99 RX10 yX10_keep cX10_keep 1 (some .int) 0 := ⟨(mw 688 (by decide +kernel) (by decide +kernel)), (mw 689 (by decide +kernel) (by decide +kernel)), (mw 690 (by decide +kernel) (by decide +kernel)), (mw 57 (by decide +kernel) (by decide +kernel)), (mw 691 (by decide +kernel) (by decide +kernel)), ⟨(by decide +kernel), (by decide +kernel), (by decide +kernel)⟩⟩
theorem cv_10_243 : CV RX10 243 RX6 yX6_copyFrom cX6_copyFrom 2 none 1 := ⟨(mw 692 (by decide +kernel) (by decide +kernel)), (mw 426 (by decide +kernel) (by decide +kernel)), (mw 427 (by decide +kernel) (by decide +kernel)), (mw 58 (by decide +kernel) (by decide +kernel)), (mw 428 (by decide +kernel) (by decide +kernel)), ⟨(by decide +kernel), (by decide +kernel), (by decide +kernel)⟩⟩
theorem cv_L_103 : CV RL 103 RX10 yX10_restore cX10_restore 1 (some .int) 0 := ⟨(mw 693 (by decide +kernel) (by decide +kernel)), (mw 694 (by decide +kernel) (by decide +kernel)), (mw 695 (by decide +kernel) (by decide +kernel)), (mw 57 (by decide +kernel) (by decide +kernel)), (mw 696 (by decide +kernel) (by decide +kernel)), ⟨(by decide +kernel), (by decide +kernel), (by decide +kernel)⟩⟩
theorem cv_L_107 : CV RL 107 RX10 yX10_undo cX10_undo 1 (some .int) 0 := ⟨(mw 697 (by decide +kernel) (by decide +kernel)), (mw 698 (by decide +kernel) (by decide +kernel)), (mw 699 (by decide +kernel) (by decide +kernel)), (mw 57 (by decide +kernel) (by decide +kernel)), (mw 700 (by decide +kernel) (by decide +kernel)), ⟨(by decide +kernel), (by decide +kernel), (by decide +kernel)⟩⟩
theorem cv_10_246 : CV RX10 246 RX2 yX2_giveBack cX2_giveBack 2 none 1 := ⟨(mw 701 (by decide +kernel) (by decide +kernel)), (mw 702 (by decide +kernel) (by decide +kernel)), (mw 703 (by decide +kernel) (by decide +kernel)), (mw 63 (by decide +kernel) (by decide +kernel)), (mw 704 (by decide +kernel) (by decide +kernel)), ⟨(by decide +kernel), (by decide +kernel), (by decide +kernel)⟩⟩
theorem cv_L_111 : CV RL 111 RX10 yX10_type cX10_type 2 (some .int) 1 := ⟨(mw 705 (by decide +kernel) (by decide +kernel)), (mw 706 (by decide +kernel) (by decide +kernel)), (mw 707 (by decide +kernel) (by decide +kernel)), (mw 57 (by decide +kernel) (by decide +kernel)), (mw 708 (by decide +kernel) (by decide +kernel)), ⟨(by decide +kernel), (by decide +kernel), (by decide +kernel)⟩⟩
theorem cv_10_249 : CV RX10 249 RX8 yX8_append cX8_append 2 none 1 := ⟨(mw 709 (by decide +kernel) (by decide +kernel)), (mw 710 (by decide +kernel) (by decide +kernel)), (mw 711 (by decide +kernel) (by decide +kernel)), (mw 64 (by decide +kernel) (by decide +kernel)), (mw 712 (by decide +kernel) (by decide +kernel)), ⟨(by decide +kernel), (by decide +kernel), (by decide +kernel)⟩⟩
theorem cv_L_115 : CV RL 115 RX10 yX10_clearText cX10_clearText 2 (some .int) 0 := ⟨(mw 713 (by decide +kernel) (by decide +kernel)), (mw 714 (by decide +kernel) (by decide +kernel)), (mw 715 (by decide +kernel) (by decide +kernel)), (mw 57 (by decide +kernel) (by decide +kernel)), (mw 716 (by decide +kernel) (by decide +kernel)), ⟨(by decide +kernel), (by decide +kernel), (by decide +kernel)⟩⟩
theorem cv_L_119 : CV RL 119 RX10 yX10_fault cX10_fault 2 (some .int) 1 := ⟨(mw 717 (by decide +kernel) (by decide +kernel)), (mw 718 (by decide +kernel) (by decide +kernel)), (mw 719 (by decide +kernel) (by decide +kernel)), (mw 57 (by decide +kernel) (by decide +kernel)), (mw 720 (by decide +kernel) (by decide +kernel)), ⟨(by decide +kernel), (by decide +kernel), (by decide +kernel)⟩⟩
theorem cv_10_252 : CV RX10 252 RX8 yX8_isFunction cX8_isFunction 3 (some .boolean) 1 := ⟨(mw 721 (by decide +kernel) (by decide +kernel)), (mw 722 (by decide +kernel) (by decide +kernel)), (mw 723 (by decide +kernel) (by decide +kernel)), (mw 64 (by decide +kernel) (by decide +kernel)), (mw 724 (by decide +kernel) (by decide +kernel)), ⟨(by decide +kernel), (by decide +kernel), (by decide +kernel)⟩⟩
theorem cv_8_38 : CV RX8 38 RX8 yX8_beginTerm cX8_beginTerm 3 none 1 := ⟨(mw 725 (by decide +kernel) (by decide +kernel)), (mw 727 (by decide +kernel) (by decide +kernel)), (mw 9 (by decide +kernel) (by decide +kernel)), (mw 64 (by decide +kernel) (by decide +kernel)), (mw 728 (by decide +kernel) (by decide +kernel)), ⟨(by decide +kernel), (by decide +kernel), (by decide +kernel)⟩⟩
theorem cv_8_42 : CV RX8 42 RX8 yX8_scanCharacter cX8_scanCharacter 4 none 3 := ⟨(mw 729 (by decide +kernel) (by decide +kernel)), (mw 731 (by decide +kernel) (by decide +kernel)), (mw 10 (by decide +kernel) (by decide +kernel)), (mw 64 (by decide +kernel) (by decide +kernel)), (mw 732 (by decide +kernel) (by decide +kernel)), ⟨(by decide +kernel), (by decide +kernel), (by decide +kernel)⟩⟩
theorem cv_8_49 : CN RX8 49 yX10_within "PollMeshes" cX10_within 3 (some .boolean) 3 := ⟨List.mem_of_getElem? (i := 16) (by decide +kernel), (mw 418 (by decide +kernel) (by decide +kernel)), (mw 57 (by decide +kernel) (by decide +kernel)), (mw 419 (by decide +kernel) (by decide +kernel)), ⟨(by decide +kernel), (by decide +kernel), (by decide +kernel)⟩⟩
theorem cv_8_53 : CV RX8 53 RX8 yX8_scanLetter cX8_scanLetter 4 none 3 := ⟨(mw 734 (by decide +kernel) (by decide +kernel)), (mw 736 (by decide +kernel) (by decide +kernel)), (mw 11 (by decide +kernel) (by decide +kernel)), (mw 64 (by decide +kernel) (by decide +kernel)), (mw 737 (by decide +kernel) (by decide +kernel)), ⟨(by decide +kernel), (by decide +kernel), (by decide +kernel)⟩⟩
theorem cv_8_64 : CV RX8 64 RX8 yX8_setFault cX8_setFault 3 none 2 := ⟨(mw 738 (by decide +kernel) (by decide +kernel)), (mw 740 (by decide +kernel) (by decide +kernel)), (mw 12 (by decide +kernel) (by decide +kernel)), (mw 64 (by decide +kernel) (by decide +kernel)), (mw 741 (by decide +kernel) (by decide +kernel)), ⟨(by decide +kernel), (by decide +kernel), (by decide +kernel)⟩⟩
theorem cv_8_56 : CV RX8 56 RX8 yX8_scanDigit cX8_scanDigit 3 none 2 := ⟨(mw 742 (by decide +kernel) (by decide +kernel)), (mw 744 (by decide +kernel) (by decide +kernel)), (mw 13 (by decide +kernel) (by decide +kernel)), (mw 64 (by decide +kernel) (by decide +kernel)), (mw 745 (by decide +kernel) (by decide +kernel)), ⟨(by decide +kernel), (by decide +kernel), (by decide +kernel)⟩⟩
theorem cv_8_60 : CV RX8 60 RX8 yX8_scanSign cX8_scanSign 3 none 2 := ⟨(mw 746 (by decide +kernel) (by decide +kernel)), (mw 748 (by decide +kernel) (by decide +kernel)), (mw 14 (by decide +kernel) (by decide +kernel)), (mw 64 (by decide +kernel) (by decide +kernel)), (mw 749 (by decide +kernel) (by decide +kernel)), ⟨(by decide +kernel), (by decide +kernel), (by decide +kernel)⟩⟩
theorem cv_8_76 : CV RX8 76 RX8 yX8_termIsEmpty cX8_termIsEmpty 1 (some .boolean) 0 := ⟨(mw 750 (by decide +kernel) (by decide +kernel)), (mw 752 (by decide +kernel) (by decide +kernel)), (mw 15 (by decide +kernel) (by decide +kernel)), (mw 64 (by decide +kernel) (by decide +kernel)), (mw 753 (by decide +kernel) (by decide +kernel)), ⟨(by decide +kernel), (by decide +kernel), (by decide +kernel)⟩⟩
theorem cv_8_84 : CV RX8 84 RX8 yX8_endTerm cX8_endTerm 2 none 0 := ⟨(mw 754 (by decide +kernel) (by decide +kernel)), (mw 756 (by decide +kernel) (by decide +kernel)), (mw 16 (by decide +kernel) (by decide +kernel)), (mw 64 (by decide +kernel) (by decide +kernel)), (mw 757 (by decide +kernel) (by decide +kernel)), ⟨(by decide +kernel), (by decide +kernel), (by decide +kernel)⟩⟩
theorem cv_8_87 : CV RX8 87 RX7 yX7_add cX7_add 5 none 4 := ⟨(mw 758 (by decide +kernel) (by decide +kernel)), (mw 465 (by decide +kernel) (by decide +kernel)), (mw 466 (by decide +kernel) (by decide +kernel)), (mw 59 (by decide +kernel) (by decide +kernel)), (mw 467 (by decide +kernel) (by decide +kernel)), ⟨(by decide +kernel), (by decide +kernel), (by decide +kernel)⟩⟩
theorem cv_8_46 : CV RX8 46 RX8 yX8_scanEnd cX8_scanEnd 1 none 0 := ⟨(mw 759 (by decide +kernel) (by decide +kernel)), (mw 761 (by decide +kernel) (by decide +kernel)), (mw 17 (by decide +kernel) (by decide +kernel)), (mw 64 (by decide +kernel) (by decide +kernel)), (mw 762 (by decide +kernel) (by decide +kernel)), ⟨(by decide +kernel), (by decide +kernel), (by decide +kernel)⟩⟩
theorem cv_L_123 : CV RL 123 RX10 yX10_read cX10_read 1 (some .int) 0 := ⟨(mw 763 (by decide +kernel) (by decide +kernel)), (mw 764 (by decide +kernel) (by decide +kernel)), (mw 765 (by decide +kernel) (by decide +kernel)), (mw 57 (by decide +kernel) (by decide +kernel)), (mw 766 (by decide +kernel) (by decide +kernel)), ⟨(by decide +kernel), (by decide +kernel), (by decide +kernel)⟩⟩
theorem cv_10_264 : CV RX10 264 RX7 yX7_copyFrom cX7_copyFrom 2 none 1 := ⟨(mw 767 (by decide +kernel) (by decide +kernel)), (mw 430 (by decide +kernel) (by decide +kernel)), (mw 431 (by decide +kernel) (by decide +kernel)), (mw 59 (by decide +kernel) (by decide +kernel)), (mw 432 (by decide +kernel) (by decide +kernel)), ⟨(by decide +kernel), (by decide +kernel), (by decide +kernel)⟩⟩
theorem cv_11_32 : CV RX11 32 RX11 yX11_begin cX11_begin 3 none 1 := ⟨(mw 774 (by decide +kernel) (by decide +kernel)), (mw 776 (by decide +kernel) (by decide +kernel)), (mw 18 (by decide +kernel) (by decide +kernel)), (mw 68 (by decide +kernel) (by decide +kernel)), (mw 777 (by decide +kernel) (by decide +kernel)), ⟨(by decide +kernel), (by decide +kernel), (by decide +kernel)⟩⟩
theorem cv_L_110 : CV RL 110 RX11 yX11_undo cX11_undo 2 (some .int) 0 := ⟨(mw 825 (by decide +kernel) (by decide +kernel)), (mw 826 (by decide +kernel) (by decide +kernel)), (mw 827 (by decide +kernel) (by decide +kernel)), (mw 68 (by decide +kernel) (by decide +kernel)), (mw 828 (by decide +kernel) (by decide +kernel)), ⟨(by decide +kernel), (by decide +kernel), (by decide +kernel)⟩⟩
theorem cv_L_102 : CV RL 102 RX11 yX11_keep cX11_keep 2 (some .int) 0 := ⟨(mw 830 (by decide +kernel) (by decide +kernel)), (mw 831 (by decide +kernel) (by decide +kernel)), (mw 832 (by decide +kernel) (by decide +kernel)), (mw 68 (by decide +kernel) (by decide +kernel)), (mw 833 (by decide +kernel) (by decide +kernel)), ⟨(by decide +kernel), (by decide +kernel), (by decide +kernel)⟩⟩
theorem cv_L_106 : CV RL 106 RX11 yX11_restore cX11_restore 2 (some .int) 0 := ⟨(mw 834 (by decide +kernel) (by decide +kernel)), (mw 835 (by decide +kernel) (by decide +kernel)), (mw 836 (by decide +kernel) (by decide +kernel)), (mw 68 (by decide +kernel) (by decide +kernel)), (mw 837 (by decide +kernel) (by decide +kernel)), ⟨(by decide +kernel), (by decide +kernel), (by decide +kernel)⟩⟩
theorem cv_11_45 : CV RX11 45 RX11 yX11_record cX11_record 2 none 0 := ⟨(mw 838 (by decide +kernel) (by decide +kernel)), (mw 840 (by decide +kernel) (by decide +kernel)), (mw 19 (by decide +kernel) (by decide +kernel)), (mw 68 (by decide +kernel) (by decide +kernel)), (mw 841 (by decide +kernel) (by decide +kernel)), ⟨(by decide +kernel), (by decide +kernel), (by decide +kernel)⟩⟩
theorem cv_L_62 : CV RL 62 RX11 yX11_value cX11_value 5 (some .long) 4 := ⟨(mw 842 (by decide +kernel) (by decide +kernel)), (mw 843 (by decide +kernel) (by decide +kernel)), (mw 844 (by decide +kernel) (by decide +kernel)), (mw 68 (by decide +kernel) (by decide +kernel)), (mw 845 (by decide +kernel) (by decide +kernel)), ⟨(by decide +kernel), (by decide +kernel), (by decide +kernel)⟩⟩
theorem cv_11_59 : CV RX11 59 RX11 yX11_arePlace cX11_arePlace 4 (some .boolean) 3 := ⟨(mw 846 (by decide +kernel) (by decide +kernel)), (mw 848 (by decide +kernel) (by decide +kernel)), (mw 20 (by decide +kernel) (by decide +kernel)), (mw 68 (by decide +kernel) (by decide +kernel)), (mw 849 (by decide +kernel) (by decide +kernel)), ⟨(by decide +kernel), (by decide +kernel), (by decide +kernel)⟩⟩
theorem cv_11_48 : CS RX11 48 yX11_in cX11_in 3 (some .boolean) 3 := ⟨(mw 850 (by decide +kernel) (by decide +kernel)), (mw 851 (by decide +kernel) (by decide +kernel)), (mw 68 (by decide +kernel) (by decide +kernel)), (mw 852 (by decide +kernel) (by decide +kernel)), ⟨(by decide +kernel), (by decide +kernel), (by decide +kernel)⟩⟩
theorem cv_11_52 : CV RX11 52 RX11 yX11_areOfVariables cX11_areOfVariables 4 (some .boolean) 3 := ⟨(mw 853 (by decide +kernel) (by decide +kernel)), (mw 855 (by decide +kernel) (by decide +kernel)), (mw 21 (by decide +kernel) (by decide +kernel)), (mw 68 (by decide +kernel) (by decide +kernel)), (mw 856 (by decide +kernel) (by decide +kernel)), ⟨(by decide +kernel), (by decide +kernel), (by decide +kernel)⟩⟩
theorem cv_11_64 : CV RX11 64 RX11 yX11_valueAt cX11_valueAt 10 (some .long) 4 := ⟨(mw 858 (by decide +kernel) (by decide +kernel)), (mw 860 (by decide +kernel) (by decide +kernel)), (mw 22 (by decide +kernel) (by decide +kernel)), (mw 68 (by decide +kernel) (by decide +kernel)), (mw 861 (by decide +kernel) (by decide +kernel)), ⟨(by decide +kernel), (by decide +kernel), (by decide +kernel)⟩⟩
theorem cv_11_55 : CS RX11 55 yX11_power cX11_power 5 (some .long) 2 := ⟨(mw 862 (by decide +kernel) (by decide +kernel)), (mw 863 (by decide +kernel) (by decide +kernel)), (mw 68 (by decide +kernel) (by decide +kernel)), (mw 864 (by decide +kernel) (by decide +kernel)), ⟨(by decide +kernel), (by decide +kernel), (by decide +kernel)⟩⟩
theorem cv_L_17 : CV RL 17 RX11 yX11_variables cX11_variables 3 (some .int) 1 := ⟨(mw 866 (by decide +kernel) (by decide +kernel)), (mw 867 (by decide +kernel) (by decide +kernel)), (mw 868 (by decide +kernel) (by decide +kernel)), (mw 68 (by decide +kernel) (by decide +kernel)), (mw 869 (by decide +kernel) (by decide +kernel)), ⟨(by decide +kernel), (by decide +kernel), (by decide +kernel)⟩⟩
theorem cv_L_22 : CV RL 22 RX11 yX11_term cX11_term 6 (some .int) 4 := ⟨(mw 871 (by decide +kernel) (by decide +kernel)), (mw 872 (by decide +kernel) (by decide +kernel)), (mw 873 (by decide +kernel) (by decide +kernel)), (mw 68 (by decide +kernel) (by decide +kernel)), (mw 874 (by decide +kernel) (by decide +kernel)), ⟨(by decide +kernel), (by decide +kernel), (by decide +kernel)⟩⟩
theorem cv_11_71 : CV RX11 71 RX11 yX11_termMany cX11_termMany 1 (some .int) 0 := ⟨(mw 875 (by decide +kernel) (by decide +kernel)), (mw 877 (by decide +kernel) (by decide +kernel)), (mw 23 (by decide +kernel) (by decide +kernel)), (mw 68 (by decide +kernel) (by decide +kernel)), (mw 878 (by decide +kernel) (by decide +kernel)), ⟨(by decide +kernel), (by decide +kernel), (by decide +kernel)⟩⟩
theorem cv_11_76 : CV RX11 76 RX11 yX11_putTerm cX11_putTerm 6 none 5 := ⟨(mw 880 (by decide +kernel) (by decide +kernel)), (mw 882 (by decide +kernel) (by decide +kernel)), (mw 24 (by decide +kernel) (by decide +kernel)), (mw 68 (by decide +kernel) (by decide +kernel)), (mw 883 (by decide +kernel) (by decide +kernel)), ⟨(by decide +kernel), (by decide +kernel), (by decide +kernel)⟩⟩
theorem cv_11_80 : CV RX11 80 RX11 yX11_oneMore cX11_oneMore 2 (some .int) 1 := ⟨(mw 884 (by decide +kernel) (by decide +kernel)), (mw 886 (by decide +kernel) (by decide +kernel)), (mw 25 (by decide +kernel) (by decide +kernel)), (mw 68 (by decide +kernel) (by decide +kernel)), (mw 887 (by decide +kernel) (by decide +kernel)), ⟨(by decide +kernel), (by decide +kernel), (by decide +kernel)⟩⟩
theorem cv_L_26 : CV RL 26 RX11 yX11_dropTerm cX11_dropTerm 4 (some .int) 1 := ⟨(mw 888 (by decide +kernel) (by decide +kernel)), (mw 889 (by decide +kernel) (by decide +kernel)), (mw 890 (by decide +kernel) (by decide +kernel)), (mw 68 (by decide +kernel) (by decide +kernel)), (mw 891 (by decide +kernel) (by decide +kernel)), ⟨(by decide +kernel), (by decide +kernel), (by decide +kernel)⟩⟩
theorem cv_L_31 : CV RL 31 RX11 yX11_bound cX11_bound 4 (some .int) 3 := ⟨(mw 892 (by decide +kernel) (by decide +kernel)), (mw 893 (by decide +kernel) (by decide +kernel)), (mw 894 (by decide +kernel) (by decide +kernel)), (mw 68 (by decide +kernel) (by decide +kernel)), (mw 895 (by decide +kernel) (by decide +kernel)), ⟨(by decide +kernel), (by decide +kernel), (by decide +kernel)⟩⟩
theorem cv_11_87 : CV RX11 87 RX11 yX11_isVariable cX11_isVariable 2 (some .boolean) 1 := ⟨(mw 896 (by decide +kernel) (by decide +kernel)), (mw 898 (by decide +kernel) (by decide +kernel)), (mw 26 (by decide +kernel) (by decide +kernel)), (mw 68 (by decide +kernel) (by decide +kernel)), (mw 899 (by decide +kernel) (by decide +kernel)), ⟨(by decide +kernel), (by decide +kernel), (by decide +kernel)⟩⟩
theorem cv_11_91 : CV RX11 91 RX11 yX11_isHereAllowed cX11_isHereAllowed 1 (some .boolean) 0 := ⟨(mw 900 (by decide +kernel) (by decide +kernel)), (mw 902 (by decide +kernel) (by decide +kernel)), (mw 27 (by decide +kernel) (by decide +kernel)), (mw 68 (by decide +kernel) (by decide +kernel)), (mw 903 (by decide +kernel) (by decide +kernel)), ⟨(by decide +kernel), (by decide +kernel), (by decide +kernel)⟩⟩
theorem cv_11_84 : CV RX11 84 RX11 yX11_isAllowed cX11_isAllowed 4 (some .boolean) 3 := ⟨(mw 904 (by decide +kernel) (by decide +kernel)), (mw 906 (by decide +kernel) (by decide +kernel)), (mw 28 (by decide +kernel) (by decide +kernel)), (mw 68 (by decide +kernel) (by decide +kernel)), (mw 907 (by decide +kernel) (by decide +kernel)), ⟨(by decide +kernel), (by decide +kernel), (by decide +kernel)⟩⟩
theorem cv_L_35 : CV RL 35 RX11 yX11_direction cX11_direction 6 (some .int) 3 := ⟨(mw 908 (by decide +kernel) (by decide +kernel)), (mw 909 (by decide +kernel) (by decide +kernel)), (mw 910 (by decide +kernel) (by decide +kernel)), (mw 68 (by decide +kernel) (by decide +kernel)), (mw 911 (by decide +kernel) (by decide +kernel)), ⟨(by decide +kernel), (by decide +kernel), (by decide +kernel)⟩⟩
theorem cv_11_95 : CV RX11 95 RX11 yX11_directionMany cX11_directionMany 1 (some .int) 0 := ⟨(mw 912 (by decide +kernel) (by decide +kernel)), (mw 914 (by decide +kernel) (by decide +kernel)), (mw 29 (by decide +kernel) (by decide +kernel)), (mw 68 (by decide +kernel) (by decide +kernel)), (mw 915 (by decide +kernel) (by decide +kernel)), ⟨(by decide +kernel), (by decide +kernel), (by decide +kernel)⟩⟩
theorem cv_11_98 : CV RX11 98 RX11 yX11_step cX11_step 3 (some .int) 2 := ⟨(mw 916 (by decide +kernel) (by decide +kernel)), (mw 918 (by decide +kernel) (by decide +kernel)), (mw 30 (by decide +kernel) (by decide +kernel)), (mw 68 (by decide +kernel) (by decide +kernel)), (mw 919 (by decide +kernel) (by decide +kernel)), ⟨(by decide +kernel), (by decide +kernel), (by decide +kernel)⟩⟩
theorem cv_11_102 : CV RX11 102 RX11 yX11_putDirection cX11_putDirection 5 none 4 := ⟨(mw 920 (by decide +kernel) (by decide +kernel)), (mw 922 (by decide +kernel) (by decide +kernel)), (mw 31 (by decide +kernel) (by decide +kernel)), (mw 68 (by decide +kernel) (by decide +kernel)), (mw 923 (by decide +kernel) (by decide +kernel)), ⟨(by decide +kernel), (by decide +kernel), (by decide +kernel)⟩⟩
theorem cv_L_39 : CV RL 39 RX11 yX11_dropDirection cX11_dropDirection 3 (some .int) 1 := ⟨(mw 924 (by decide +kernel) (by decide +kernel)), (mw 925 (by decide +kernel) (by decide +kernel)), (mw 926 (by decide +kernel) (by decide +kernel)), (mw 68 (by decide +kernel) (by decide +kernel)), (mw 927 (by decide +kernel) (by decide +kernel)), ⟨(by decide +kernel), (by decide +kernel), (by decide +kernel)⟩⟩
theorem cv_L_43 : CV RL 43 RX11 yX11_start cX11_start 5 (some .int) 4 := ⟨(mw 928 (by decide +kernel) (by decide +kernel)), (mw 929 (by decide +kernel) (by decide +kernel)), (mw 930 (by decide +kernel) (by decide +kernel)), (mw 68 (by decide +kernel) (by decide +kernel)), (mw 931 (by decide +kernel) (by decide +kernel)), ⟨(by decide +kernel), (by decide +kernel), (by decide +kernel)⟩⟩
theorem cv_11_106 : CV RX11 106 RX11 yX11_clearSearch cX11_clearSearch 3 none 1 := ⟨(mw 932 (by decide +kernel) (by decide +kernel)), (mw 934 (by decide +kernel) (by decide +kernel)), (mw 32 (by decide +kernel) (by decide +kernel)), (mw 68 (by decide +kernel) (by decide +kernel)), (mw 935 (by decide +kernel) (by decide +kernel)), ⟨(by decide +kernel), (by decide +kernel), (by decide +kernel)⟩⟩
theorem cv_11_109 : CV RX11 109 RX11 yX11_putPlace cX11_putPlace 4 none 3 := ⟨(mw 936 (by decide +kernel) (by decide +kernel)), (mw 938 (by decide +kernel) (by decide +kernel)), (mw 33 (by decide +kernel) (by decide +kernel)), (mw 68 (by decide +kernel) (by decide +kernel)), (mw 939 (by decide +kernel) (by decide +kernel)), ⟨(by decide +kernel), (by decide +kernel), (by decide +kernel)⟩⟩
theorem cv_L_48 : CV RL 48 RX11 yX11_order cX11_order 4 (some .int) 2 := ⟨(mw 940 (by decide +kernel) (by decide +kernel)), (mw 941 (by decide +kernel) (by decide +kernel)), (mw 942 (by decide +kernel) (by decide +kernel)), (mw 68 (by decide +kernel) (by decide +kernel)), (mw 943 (by decide +kernel) (by decide +kernel)), ⟨(by decide +kernel), (by decide +kernel), (by decide +kernel)⟩⟩
theorem cv_L_53 : CV RL 53 RX11 yX11_poll cX11_poll 1 (some .int) 0 := ⟨(mw 944 (by decide +kernel) (by decide +kernel)), (mw 945 (by decide +kernel) (by decide +kernel)), (mw 946 (by decide +kernel) (by decide +kernel)), (mw 68 (by decide +kernel) (by decide +kernel)), (mw 947 (by decide +kernel) (by decide +kernel)), ⟨(by decide +kernel), (by decide +kernel), (by decide +kernel)⟩⟩
theorem cv_11_145 : CV RX11 145 RX11 yX11_canPoll cX11_canPoll 1 (some .boolean) 0 := ⟨(mw 948 (by decide +kernel) (by decide +kernel)), (mw 950 (by decide +kernel) (by decide +kernel)), (mw 34 (by decide +kernel) (by decide +kernel)), (mw 68 (by decide +kernel) (by decide +kernel)), (mw 951 (by decide +kernel) (by decide +kernel)), ⟨(by decide +kernel), (by decide +kernel), (by decide +kernel)⟩⟩
theorem cv_11_148 : CV RX11 148 RX11 yX11_pollOnce cX11_pollOnce 8 (some .int) 0 := ⟨(mw 952 (by decide +kernel) (by decide +kernel)), (mw 954 (by decide +kernel) (by decide +kernel)), (mw 35 (by decide +kernel) (by decide +kernel)), (mw 68 (by decide +kernel) (by decide +kernel)), (mw 955 (by decide +kernel) (by decide +kernel)), ⟨(by decide +kernel), (by decide +kernel), (by decide +kernel)⟩⟩
theorem cv_11_134 : CV RX11 134 RX11 yX11_layRow cX11_layRow 7 none 0 := ⟨(mw 956 (by decide +kernel) (by decide +kernel)), (mw 958 (by decide +kernel) (by decide +kernel)), (mw 36 (by decide +kernel) (by decide +kernel)), (mw 68 (by decide +kernel) (by decide +kernel)), (mw 959 (by decide +kernel) (by decide +kernel)), ⟨(by decide +kernel), (by decide +kernel), (by decide +kernel)⟩⟩
theorem cv_11_124 : CV RX11 124 RX11 yX11_isTrialAllowed cX11_isTrialAllowed 3 (some .boolean) 2 := ⟨(mw 960 (by decide +kernel) (by decide +kernel)), (mw 962 (by decide +kernel) (by decide +kernel)), (mw 37 (by decide +kernel) (by decide +kernel)), (mw 68 (by decide +kernel) (by decide +kernel)), (mw 963 (by decide +kernel) (by decide +kernel)), ⟨(by decide +kernel), (by decide +kernel), (by decide +kernel)⟩⟩
theorem cv_11_113 : CV RX11 113 RX11 yX11_trialAt cX11_trialAt 4 (some .int) 3 := ⟨(mw 964 (by decide +kernel) (by decide +kernel)), (mw 966 (by decide +kernel) (by decide +kernel)), (mw 38 (by decide +kernel) (by decide +kernel)), (mw 68 (by decide +kernel) (by decide +kernel)), (mw 967 (by decide +kernel) (by decide +kernel)), ⟨(by decide +kernel), (by decide +kernel), (by decide +kernel)⟩⟩
theorem cv_11_128 : CV RX11 128 RX11 yX11_isAhead cX11_isAhead 4 (some .boolean) 3 := ⟨(mw 968 (by decide +kernel) (by decide +kernel)), (mw 970 (by decide +kernel) (by decide +kernel)), (mw 39 (by decide +kernel) (by decide +kernel)), (mw 68 (by decide +kernel) (by decide +kernel)), (mw 971 (by decide +kernel) (by decide +kernel)), ⟨(by decide +kernel), (by decide +kernel), (by decide +kernel)⟩⟩
theorem cv_11_117 : CV RX11 117 RX11 yX11_trialValue cX11_trialValue 4 (some .long) 3 := ⟨(mw 972 (by decide +kernel) (by decide +kernel)), (mw 974 (by decide +kernel) (by decide +kernel)), (mw 40 (by decide +kernel) (by decide +kernel)), (mw 68 (by decide +kernel) (by decide +kernel)), (mw 975 (by decide +kernel) (by decide +kernel)), ⟨(by decide +kernel), (by decide +kernel), (by decide +kernel)⟩⟩
theorem cv_11_137 : CV RX11 137 RX11 yX11_valueHere cX11_valueHere 1 (some .long) 0 := ⟨(mw 976 (by decide +kernel) (by decide +kernel)), (mw 978 (by decide +kernel) (by decide +kernel)), (mw 41 (by decide +kernel) (by decide +kernel)), (mw 68 (by decide +kernel) (by decide +kernel)), (mw 979 (by decide +kernel) (by decide +kernel)), ⟨(by decide +kernel), (by decide +kernel), (by decide +kernel)⟩⟩
theorem cv_11_141 : CV RX11 141 RX11 yX11_take cX11_take 3 none 2 := ⟨(mw 980 (by decide +kernel) (by decide +kernel)), (mw 982 (by decide +kernel) (by decide +kernel)), (mw 42 (by decide +kernel) (by decide +kernel)), (mw 68 (by decide +kernel) (by decide +kernel)), (mw 983 (by decide +kernel) (by decide +kernel)), ⟨(by decide +kernel), (by decide +kernel), (by decide +kernel)⟩⟩
theorem cv_11_131 : CV RX11 131 RX11 yX11_leave cX11_leave 2 none 0 := ⟨(mw 984 (by decide +kernel) (by decide +kernel)), (mw 986 (by decide +kernel) (by decide +kernel)), (mw 43 (by decide +kernel) (by decide +kernel)), (mw 68 (by decide +kernel) (by decide +kernel)), (mw 987 (by decide +kernel) (by decide +kernel)), ⟨(by decide +kernel), (by decide +kernel), (by decide +kernel)⟩⟩
theorem cv_L_57 : CV RL 57 RX11 yX11_run cX11_run 4 (some .int) 1 := ⟨(mw 988 (by decide +kernel) (by decide +kernel)), (mw 989 (by decide +kernel) (by decide +kernel)), (mw 990 (by decide +kernel) (by decide +kernel)), (mw 68 (by decide +kernel) (by decide +kernel)), (mw 991 (by decide +kernel) (by decide +kernel)), ⟨(by decide +kernel), (by decide +kernel), (by decide +kernel)⟩⟩
theorem cv_L_66 : CV RL 66 RX11 yX11_termOf cX11_termOf 3 (some .int) 2 := ⟨(mw 992 (by decide +kernel) (by decide +kernel)), (mw 993 (by decide +kernel) (by decide +kernel)), (mw 994 (by decide +kernel) (by decide +kernel)), (mw 68 (by decide +kernel) (by decide +kernel)), (mw 995 (by decide +kernel) (by decide +kernel)), ⟨(by decide +kernel), (by decide +kernel), (by decide +kernel)⟩⟩
theorem cv_L_70 : CV RL 70 RX11 yX11_directionOf cX11_directionOf 3 (some .int) 2 := ⟨(mw 997 (by decide +kernel) (by decide +kernel)), (mw 998 (by decide +kernel) (by decide +kernel)), (mw 999 (by decide +kernel) (by decide +kernel)), (mw 68 (by decide +kernel) (by decide +kernel)), (mw 1000 (by decide +kernel) (by decide +kernel)), ⟨(by decide +kernel), (by decide +kernel), (by decide +kernel)⟩⟩
theorem cv_L_74 : CV RL 74 RX11 yX11_searchOf cX11_searchOf 2 (some .int) 1 := ⟨(mw 1001 (by decide +kernel) (by decide +kernel)), (mw 1002 (by decide +kernel) (by decide +kernel)), (mw 1003 (by decide +kernel) (by decide +kernel)), (mw 68 (by decide +kernel) (by decide +kernel)), (mw 1004 (by decide +kernel) (by decide +kernel)), ⟨(by decide +kernel), (by decide +kernel), (by decide +kernel)⟩⟩
theorem cv_L_78 : CV RL 78 RX11 yX11_leftAt cX11_leftAt 3 (some .int) 2 := ⟨(mw 1005 (by decide +kernel) (by decide +kernel)), (mw 1006 (by decide +kernel) (by decide +kernel)), (mw 1007 (by decide +kernel) (by decide +kernel)), (mw 68 (by decide +kernel) (by decide +kernel)), (mw 1008 (by decide +kernel) (by decide +kernel)), ⟨(by decide +kernel), (by decide +kernel), (by decide +kernel)⟩⟩
theorem cv_L_82 : CV RL 82 RX11 yX11_count cX11_count 4 (some .int) 1 := ⟨(mw 1009 (by decide +kernel) (by decide +kernel)), (mw 1010 (by decide +kernel) (by decide +kernel)), (mw 1011 (by decide +kernel) (by decide +kernel)), (mw 68 (by decide +kernel) (by decide +kernel)), (mw 1012 (by decide +kernel) (by decide +kernel)), ⟨(by decide +kernel), (by decide +kernel), (by decide +kernel)⟩⟩
theorem cv_L_86 : CV RL 86 RX11 yX11_trialOf cX11_trialOf 4 (some .int) 2 := ⟨(mw 1013 (by decide +kernel) (by decide +kernel)), (mw 1014 (by decide +kernel) (by decide +kernel)), (mw 1015 (by decide +kernel) (by decide +kernel)), (mw 68 (by decide +kernel) (by decide +kernel)), (mw 1016 (by decide +kernel) (by decide +kernel)), ⟨(by decide +kernel), (by decide +kernel), (by decide +kernel)⟩⟩
theorem cv_L_90 : CV RL 90 RX11 yX11_spans cX11_spans 2 (some .int) 0 := ⟨(mw 1017 (by decide +kernel) (by decide +kernel)), (mw 1018 (by decide +kernel) (by decide +kernel)), (mw 1019 (by decide +kernel) (by decide +kernel)), (mw 68 (by decide +kernel) (by decide +kernel)), (mw 1020 (by decide +kernel) (by decide +kernel)), ⟨(by decide +kernel), (by decide +kernel), (by decide +kernel)⟩⟩
theorem cv_11_158 : CV RX11 158 RX11 yX11_isBarredBoth cX11_isBarredBoth 4 (some .boolean) 3 := ⟨(mw 1021 (by decide +kernel) (by decide +kernel)), (mw 1023 (by decide +kernel) (by decide +kernel)), (mw 44 (by decide +kernel) (by decide +kernel)), (mw 68 (by decide +kernel) (by decide +kernel)), (mw 1024 (by decide +kernel) (by decide +kernel)), ⟨(by decide +kernel), (by decide +kernel), (by decide +kernel)⟩⟩
theorem cv_11_155 : CV RX11 155 RX11 yX11_isBarred cX11_isBarred 6 (some .boolean) 3 := ⟨(mw 1025 (by decide +kernel) (by decide +kernel)), (mw 1027 (by decide +kernel) (by decide +kernel)), (mw 45 (by decide +kernel) (by decide +kernel)), (mw 68 (by decide +kernel) (by decide +kernel)), (mw 1028 (by decide +kernel) (by decide +kernel)), ⟨(by decide +kernel), (by decide +kernel), (by decide +kernel)⟩⟩
theorem cv_11_161 : CV RX11 161 RX11 yX11_spanTwo cX11_spanTwo 3 (some .boolean) 0 := ⟨(mw 1029 (by decide +kernel) (by decide +kernel)), (mw 1031 (by decide +kernel) (by decide +kernel)), (mw 46 (by decide +kernel) (by decide +kernel)), (mw 68 (by decide +kernel) (by decide +kernel)), (mw 1032 (by decide +kernel) (by decide +kernel)), ⟨(by decide +kernel), (by decide +kernel), (by decide +kernel)⟩⟩
theorem cv_11_164 : CV RX11 164 RX11 yX11_spanThree cX11_spanThree 9 (some .boolean) 0 := ⟨(mw 1033 (by decide +kernel) (by decide +kernel)), (mw 1035 (by decide +kernel) (by decide +kernel)), (mw 47 (by decide +kernel) (by decide +kernel)), (mw 68 (by decide +kernel) (by decide +kernel)), (mw 1036 (by decide +kernel) (by decide +kernel)), ⟨(by decide +kernel), (by decide +kernel), (by decide +kernel)⟩⟩
theorem cv_L_94 : CV RL 94 RX11 yX11_stuck cX11_stuck 4 (some .int) 1 := ⟨(mw 1037 (by decide +kernel) (by decide +kernel)), (mw 1038 (by decide +kernel) (by decide +kernel)), (mw 1039 (by decide +kernel) (by decide +kernel)), (mw 68 (by decide +kernel) (by decide +kernel)), (mw 1040 (by decide +kernel) (by decide +kernel)), ⟨(by decide +kernel), (by decide +kernel), (by decide +kernel)⟩⟩
theorem cv_L_98 : CV RL 98 RX11 yX11_around cX11_around 3 (some .int) 2 := ⟨(mw 1041 (by decide +kernel) (by decide +kernel)), (mw 1042 (by decide +kernel) (by decide +kernel)), (mw 1043 (by decide +kernel) (by decide +kernel)), (mw 68 (by decide +kernel) (by decide +kernel)), (mw 1044 (by decide +kernel) (by decide +kernel)), ⟨(by decide +kernel), (by decide +kernel), (by decide +kernel)⟩⟩
theorem cv_11_167 : CV RX11 167 RX11 yX11_layAround cX11_layAround 14 none 1 := ⟨(mw 1045 (by decide +kernel) (by decide +kernel)), (mw 1047 (by decide +kernel) (by decide +kernel)), (mw 48 (by decide +kernel) (by decide +kernel)), (mw 68 (by decide +kernel) (by decide +kernel)), (mw 1048 (by decide +kernel) (by decide +kernel)), ⟨(by decide +kernel), (by decide +kernel), (by decide +kernel)⟩⟩
theorem cv_L_114 : CV RL 114 RX11 yX11_type cX11_type 2 (some .int) 1 := ⟨(mw 1049 (by decide +kernel) (by decide +kernel)), (mw 1050 (by decide +kernel) (by decide +kernel)), (mw 1051 (by decide +kernel) (by decide +kernel)), (mw 68 (by decide +kernel) (by decide +kernel)), (mw 1052 (by decide +kernel) (by decide +kernel)), ⟨(by decide +kernel), (by decide +kernel), (by decide +kernel)⟩⟩
theorem cv_L_118 : CV RL 118 RX11 yX11_clearText cX11_clearText 2 (some .int) 0 := ⟨(mw 1053 (by decide +kernel) (by decide +kernel)), (mw 1054 (by decide +kernel) (by decide +kernel)), (mw 1055 (by decide +kernel) (by decide +kernel)), (mw 68 (by decide +kernel) (by decide +kernel)), (mw 1056 (by decide +kernel) (by decide +kernel)), ⟨(by decide +kernel), (by decide +kernel), (by decide +kernel)⟩⟩
theorem cv_L_122 : CV RL 122 RX11 yX11_fault cX11_fault 2 (some .int) 1 := ⟨(mw 1057 (by decide +kernel) (by decide +kernel)), (mw 1058 (by decide +kernel) (by decide +kernel)), (mw 1059 (by decide +kernel) (by decide +kernel)), (mw 68 (by decide +kernel) (by decide +kernel)), (mw 1060 (by decide +kernel) (by decide +kernel)), ⟨(by decide +kernel), (by decide +kernel), (by decide +kernel)⟩⟩
theorem cv_11_201 : CV RX11 201 RX11 yX11_readText cX11_readText 3 none 0 := ⟨(mw 1061 (by decide +kernel) (by decide +kernel)), (mw 1063 (by decide +kernel) (by decide +kernel)), (mw 49 (by decide +kernel) (by decide +kernel)), (mw 68 (by decide +kernel) (by decide +kernel)), (mw 1064 (by decide +kernel) (by decide +kernel)), ⟨(by decide +kernel), (by decide +kernel), (by decide +kernel)⟩⟩
theorem cv_11_179 : CV RX11 179 RX11 yX11_letter cX11_letter 2 (some .int) 1 := ⟨(mw 1065 (by decide +kernel) (by decide +kernel)), (mw 1067 (by decide +kernel) (by decide +kernel)), (mw 50 (by decide +kernel) (by decide +kernel)), (mw 68 (by decide +kernel) (by decide +kernel)), (mw 1068 (by decide +kernel) (by decide +kernel)), ⟨(by decide +kernel), (by decide +kernel), (by decide +kernel)⟩⟩
theorem cv_11_197 : CV RX11 197 RX11 yX11_readTerm cX11_readTerm 4 none 1 := ⟨(mw 1069 (by decide +kernel) (by decide +kernel)), (mw 1071 (by decide +kernel) (by decide +kernel)), (mw 51 (by decide +kernel) (by decide +kernel)), (mw 68 (by decide +kernel) (by decide +kernel)), (mw 1072 (by decide +kernel) (by decide +kernel)), ⟨(by decide +kernel), (by decide +kernel), (by decide +kernel)⟩⟩
theorem cv_11_182 : CV RX11 182 RX11 yX11_isDigit cX11_isDigit 2 (some .boolean) 1 := ⟨(mw 1073 (by decide +kernel) (by decide +kernel)), (mw 1075 (by decide +kernel) (by decide +kernel)), (mw 52 (by decide +kernel) (by decide +kernel)), (mw 68 (by decide +kernel) (by decide +kernel)), (mw 1076 (by decide +kernel) (by decide +kernel)), ⟨(by decide +kernel), (by decide +kernel), (by decide +kernel)⟩⟩
theorem cv_11_185 : CV RX11 185 RX11 yX11_fail cX11_fail 2 none 1 := ⟨(mw 1077 (by decide +kernel) (by decide +kernel)), (mw 1079 (by decide +kernel) (by decide +kernel)), (mw 53 (by decide +kernel) (by decide +kernel)), (mw 68 (by decide +kernel) (by decide +kernel)), (mw 1080 (by decide +kernel) (by decide +kernel)), ⟨(by decide +kernel), (by decide +kernel), (by decide +kernel)⟩⟩
theorem cv_11_191 : CV RX11 191 RX11 yX11_readNumber cX11_readNumber 2 (some .int) 0 := ⟨(mw 1081 (by decide +kernel) (by decide +kernel)), (mw 1083 (by decide +kernel) (by decide +kernel)), (mw 54 (by decide +kernel) (by decide +kernel)), (mw 68 (by decide +kernel) (by decide +kernel)), (mw 1084 (by decide +kernel) (by decide +kernel)), ⟨(by decide +kernel), (by decide +kernel), (by decide +kernel)⟩⟩
theorem cv_11_194 : CV RX11 194 RX11 yX11_readLetters cX11_readLetters 4 none 1 := ⟨(mw 1085 (by decide +kernel) (by decide +kernel)), (mw 1087 (by decide +kernel) (by decide +kernel)), (mw 55 (by decide +kernel) (by decide +kernel)), (mw 68 (by decide +kernel) (by decide +kernel)), (mw 1088 (by decide +kernel) (by decide +kernel)), ⟨(by decide +kernel), (by decide +kernel), (by decide +kernel)⟩⟩
theorem cv_L_126 : CV RL 126 RX11 yX11_read cX11_read 2 (some .int) 0 := ⟨(mw 1089 (by decide +kernel) (by decide +kernel)), (mw 1090 (by decide +kernel) (by decide +kernel)), (mw 1091 (by decide +kernel) (by decide +kernel)), (mw 68 (by decide +kernel) (by decide +kernel)), (mw 1092 (by decide +kernel) (by decide +kernel)), ⟨(by decide +kernel), (by decide +kernel), (by decide +kernel)⟩⟩
theorem kc_10_66 : Cond.constant RX10 66 (-1000001) ∈ tb := (mw 420 (by decide +kernel) (by decide +kernel))
theorem kc_10_88 : Cond.constant RX10 88 (-1000003) ∈ tb := (mw 463 (by decide +kernel) (by decide +kernel))
theorem kc_10_93 : Cond.constant RX10 93 (-1000002) ∈ tb := (mw 472 (by decide +kernel) (by decide +kernel))
theorem kc_10_170 : Cond.constantLong RX10 170 (-1000001) ∈ tb := (mw 602 (by decide +kernel) (by decide +kernel))
theorem kc_10_172 : Cond.constantLong RX10 172 (20000000000) ∈ tb := (mw 603 (by decide +kernel) (by decide +kernel))
theorem kc_10_178 : Cond.constant RX10 178 (-1000004) ∈ tb := (mw 609 (by decide +kernel) (by decide +kernel))
theorem kc_3_21 : Cond.constantLong RX3 21 (20000000000) ∈ tb := (mw 681 (by decide +kernel) (by decide +kernel))
theorem kc_11_40 : Cond.constant RX11 40 (-1000002) ∈ tb := (mw 829 (by decide +kernel) (by decide +kernel))
theorem kc_11_62 : Cond.constantLong RX11 62 (-1000001) ∈ tb := (mw 857 (by decide +kernel) (by decide +kernel))
theorem kc_11_68 : Cond.constantLong RX11 68 (20000000000) ∈ tb := (mw 865 (by decide +kernel) (by decide +kernel))
theorem kc_11_70 : Cond.constant RX11 70 (-1000001) ∈ tb := (mw 870 (by decide +kernel) (by decide +kernel))
theorem kc_11_75 : Cond.constant RX11 75 (-1000003) ∈ tb := (mw 879 (by decide +kernel) (by decide +kernel))
theorem kc_11_151 : Cond.constant RX11 151 (-1000004) ∈ tb := (mw 996 (by decide +kernel) (by decide +kernel))
theorem bp_m99 : (Int8.ofInt (-99)).toInt32 = (-99) := by decide
theorem bp_m50 : (Int8.ofInt (-50)).toInt32 = (-50) := by decide
theorem bp_m3 : (Int8.ofInt (-3)).toInt32 = (-3) := by decide
theorem ic_m1 : Int32.ofInt (-1) = (-1) := by decide
theorem ic_0 : Int32.ofInt 0 = 0 := by decide
theorem ix_0 : ix 0 = 0 := by decide
theorem ib_0 {n : Nat} (h : 0 < n) : inb 0 n := ⟨by decide, by rw [show (0 : Int32).toInt = 0 by decide]; omega⟩
theorem nn_0 : ¬ (0 : Int32) < 0 := by decide
theorem ic_1 : Int32.ofInt 1 = 1 := by decide
theorem ix_1 : ix 1 = 1 := by decide
theorem ib_1 {n : Nat} (h : 1 < n) : inb 1 n := ⟨by decide, by rw [show (1 : Int32).toInt = 1 by decide]; omega⟩
theorem nn_1 : ¬ (1 : Int32) < 0 := by decide
theorem ic_2 : Int32.ofInt 2 = 2 := by decide
theorem ix_2 : ix 2 = 2 := by decide
theorem ib_2 {n : Nat} (h : 2 < n) : inb 2 n := ⟨by decide, by rw [show (2 : Int32).toInt = 2 by decide]; omega⟩
theorem nn_2 : ¬ (2 : Int32) < 0 := by decide
theorem ic_3 : Int32.ofInt 3 = 3 := by decide
theorem ix_3 : ix 3 = 3 := by decide
theorem ib_3 {n : Nat} (h : 3 < n) : inb 3 n := ⟨by decide, by rw [show (3 : Int32).toInt = 3 by decide]; omega⟩
theorem nn_3 : ¬ (3 : Int32) < 0 := by decide
theorem ic_4 : Int32.ofInt 4 = 4 := by decide
theorem ix_4 : ix 4 = 4 := by decide
theorem ib_4 {n : Nat} (h : 4 < n) : inb 4 n := ⟨by decide, by rw [show (4 : Int32).toInt = 4 by decide]; omega⟩
theorem nn_4 : ¬ (4 : Int32) < 0 := by decide
theorem ic_5 : Int32.ofInt 5 = 5 := by decide
theorem ix_5 : ix 5 = 5 := by decide
theorem ib_5 {n : Nat} (h : 5 < n) : inb 5 n := ⟨by decide, by rw [show (5 : Int32).toInt = 5 by decide]; omega⟩
theorem nn_5 : ¬ (5 : Int32) < 0 := by decide
theorem bp_6 : (Int8.ofInt 6).toInt32 = 6 := by decide
theorem ix_6 : ix 6 = 6 := by decide
theorem ib_6 {n : Nat} (h : 6 < n) : inb 6 n := ⟨by decide, by rw [show (6 : Int32).toInt = 6 by decide]; omega⟩
theorem nn_6 : ¬ (6 : Int32) < 0 := by decide
theorem bp_7 : (Int8.ofInt 7).toInt32 = 7 := by decide
theorem ix_7 : ix 7 = 7 := by decide
theorem ib_7 {n : Nat} (h : 7 < n) : inb 7 n := ⟨by decide, by rw [show (7 : Int32).toInt = 7 by decide]; omega⟩
theorem nn_7 : ¬ (7 : Int32) < 0 := by decide
theorem bp_8 : (Int8.ofInt 8).toInt32 = 8 := by decide
theorem ix_8 : ix 8 = 8 := by decide
theorem ib_8 {n : Nat} (h : 8 < n) : inb 8 n := ⟨by decide, by rw [show (8 : Int32).toInt = 8 by decide]; omega⟩
theorem nn_8 : ¬ (8 : Int32) < 0 := by decide
theorem bp_9 : (Int8.ofInt 9).toInt32 = 9 := by decide
theorem ix_9 : ix 9 = 9 := by decide
theorem ib_9 {n : Nat} (h : 9 < n) : inb 9 n := ⟨by decide, by rw [show (9 : Int32).toInt = 9 by decide]; omega⟩
theorem nn_9 : ¬ (9 : Int32) < 0 := by decide
theorem bp_10 : (Int8.ofInt 10).toInt32 = 10 := by decide
theorem ix_10 : ix 10 = 10 := by decide
theorem ib_10 {n : Nat} (h : 10 < n) : inb 10 n := ⟨by decide, by rw [show (10 : Int32).toInt = 10 by decide]; omega⟩
theorem nn_10 : ¬ (10 : Int32) < 0 := by decide
theorem bp_11 : (Int8.ofInt 11).toInt32 = 11 := by decide
theorem ix_11 : ix 11 = 11 := by decide
theorem ib_11 {n : Nat} (h : 11 < n) : inb 11 n := ⟨by decide, by rw [show (11 : Int32).toInt = 11 by decide]; omega⟩
theorem nn_11 : ¬ (11 : Int32) < 0 := by decide
theorem bp_12 : (Int8.ofInt 12).toInt32 = 12 := by decide
theorem ix_12 : ix 12 = 12 := by decide
theorem ib_12 {n : Nat} (h : 12 < n) : inb 12 n := ⟨by decide, by rw [show (12 : Int32).toInt = 12 by decide]; omega⟩
theorem nn_12 : ¬ (12 : Int32) < 0 := by decide
theorem bp_13 : (Int8.ofInt 13).toInt32 = 13 := by decide
theorem ix_13 : ix 13 = 13 := by decide
theorem ib_13 {n : Nat} (h : 13 < n) : inb 13 n := ⟨by decide, by rw [show (13 : Int32).toInt = 13 by decide]; omega⟩
theorem nn_13 : ¬ (13 : Int32) < 0 := by decide
theorem bp_14 : (Int8.ofInt 14).toInt32 = 14 := by decide
theorem ix_14 : ix 14 = 14 := by decide
theorem ib_14 {n : Nat} (h : 14 < n) : inb 14 n := ⟨by decide, by rw [show (14 : Int32).toInt = 14 by decide]; omega⟩
theorem nn_14 : ¬ (14 : Int32) < 0 := by decide
theorem bp_15 : (Int8.ofInt 15).toInt32 = 15 := by decide
theorem ix_15 : ix 15 = 15 := by decide
theorem ib_15 {n : Nat} (h : 15 < n) : inb 15 n := ⟨by decide, by rw [show (15 : Int32).toInt = 15 by decide]; omega⟩
theorem nn_15 : ¬ (15 : Int32) < 0 := by decide
theorem bp_16 : (Int8.ofInt 16).toInt32 = 16 := by decide
theorem ix_16 : ix 16 = 16 := by decide
theorem ib_16 {n : Nat} (h : 16 < n) : inb 16 n := ⟨by decide, by rw [show (16 : Int32).toInt = 16 by decide]; omega⟩
theorem nn_16 : ¬ (16 : Int32) < 0 := by decide
theorem bp_17 : (Int8.ofInt 17).toInt32 = 17 := by decide
theorem ix_17 : ix 17 = 17 := by decide
theorem ib_17 {n : Nat} (h : 17 < n) : inb 17 n := ⟨by decide, by rw [show (17 : Int32).toInt = 17 by decide]; omega⟩
theorem nn_17 : ¬ (17 : Int32) < 0 := by decide
theorem bp_18 : (Int8.ofInt 18).toInt32 = 18 := by decide
theorem ix_18 : ix 18 = 18 := by decide
theorem ib_18 {n : Nat} (h : 18 < n) : inb 18 n := ⟨by decide, by rw [show (18 : Int32).toInt = 18 by decide]; omega⟩
theorem nn_18 : ¬ (18 : Int32) < 0 := by decide
theorem bp_19 : (Int8.ofInt 19).toInt32 = 19 := by decide
theorem ix_19 : ix 19 = 19 := by decide
theorem ib_19 {n : Nat} (h : 19 < n) : inb 19 n := ⟨by decide, by rw [show (19 : Int32).toInt = 19 by decide]; omega⟩
theorem nn_19 : ¬ (19 : Int32) < 0 := by decide
theorem bp_20 : (Int8.ofInt 20).toInt32 = 20 := by decide
theorem ix_20 : ix 20 = 20 := by decide
theorem ib_20 {n : Nat} (h : 20 < n) : inb 20 n := ⟨by decide, by rw [show (20 : Int32).toInt = 20 by decide]; omega⟩
theorem nn_20 : ¬ (20 : Int32) < 0 := by decide
theorem bp_21 : (Int8.ofInt 21).toInt32 = 21 := by decide
theorem ix_21 : ix 21 = 21 := by decide
theorem ib_21 {n : Nat} (h : 21 < n) : inb 21 n := ⟨by decide, by rw [show (21 : Int32).toInt = 21 by decide]; omega⟩
theorem nn_21 : ¬ (21 : Int32) < 0 := by decide
theorem bp_24 : (Int8.ofInt 24).toInt32 = 24 := by decide
theorem ix_24 : ix 24 = 24 := by decide
theorem ib_24 {n : Nat} (h : 24 < n) : inb 24 n := ⟨by decide, by rw [show (24 : Int32).toInt = 24 by decide]; omega⟩
theorem nn_24 : ¬ (24 : Int32) < 0 := by decide
theorem bp_30 : (Int8.ofInt 30).toInt32 = 30 := by decide
theorem ix_30 : ix 30 = 30 := by decide
theorem ib_30 {n : Nat} (h : 30 < n) : inb 30 n := ⟨by decide, by rw [show (30 : Int32).toInt = 30 by decide]; omega⟩
theorem nn_30 : ¬ (30 : Int32) < 0 := by decide
theorem bp_31 : (Int8.ofInt 31).toInt32 = 31 := by decide
theorem ix_31 : ix 31 = 31 := by decide
theorem ib_31 {n : Nat} (h : 31 < n) : inb 31 n := ⟨by decide, by rw [show (31 : Int32).toInt = 31 by decide]; omega⟩
theorem nn_31 : ¬ (31 : Int32) < 0 := by decide
theorem bp_32 : (Int8.ofInt 32).toInt32 = 32 := by decide
theorem ix_32 : ix 32 = 32 := by decide
theorem ib_32 {n : Nat} (h : 32 < n) : inb 32 n := ⟨by decide, by rw [show (32 : Int32).toInt = 32 by decide]; omega⟩
theorem nn_32 : ¬ (32 : Int32) < 0 := by decide
theorem bp_40 : (Int8.ofInt 40).toInt32 = 40 := by decide
theorem ix_40 : ix 40 = 40 := by decide
theorem ib_40 {n : Nat} (h : 40 < n) : inb 40 n := ⟨by decide, by rw [show (40 : Int32).toInt = 40 by decide]; omega⟩
theorem nn_40 : ¬ (40 : Int32) < 0 := by decide
theorem bp_42 : (Int8.ofInt 42).toInt32 = 42 := by decide
theorem ix_42 : ix 42 = 42 := by decide
theorem ib_42 {n : Nat} (h : 42 < n) : inb 42 n := ⟨by decide, by rw [show (42 : Int32).toInt = 42 by decide]; omega⟩
theorem nn_42 : ¬ (42 : Int32) < 0 := by decide
theorem bp_43 : (Int8.ofInt 43).toInt32 = 43 := by decide
theorem ix_43 : ix 43 = 43 := by decide
theorem ib_43 {n : Nat} (h : 43 < n) : inb 43 n := ⟨by decide, by rw [show (43 : Int32).toInt = 43 by decide]; omega⟩
theorem nn_43 : ¬ (43 : Int32) < 0 := by decide
theorem bp_45 : (Int8.ofInt 45).toInt32 = 45 := by decide
theorem ix_45 : ix 45 = 45 := by decide
theorem ib_45 {n : Nat} (h : 45 < n) : inb 45 n := ⟨by decide, by rw [show (45 : Int32).toInt = 45 by decide]; omega⟩
theorem nn_45 : ¬ (45 : Int32) < 0 := by decide
theorem bp_48 : (Int8.ofInt 48).toInt32 = 48 := by decide
theorem ix_48 : ix 48 = 48 := by decide
theorem ib_48 {n : Nat} (h : 48 < n) : inb 48 n := ⟨by decide, by rw [show (48 : Int32).toInt = 48 by decide]; omega⟩
theorem nn_48 : ¬ (48 : Int32) < 0 := by decide
theorem bp_50 : (Int8.ofInt 50).toInt32 = 50 := by decide
theorem ix_50 : ix 50 = 50 := by decide
theorem ib_50 {n : Nat} (h : 50 < n) : inb 50 n := ⟨by decide, by rw [show (50 : Int32).toInt = 50 by decide]; omega⟩
theorem nn_50 : ¬ (50 : Int32) < 0 := by decide
theorem bp_57 : (Int8.ofInt 57).toInt32 = 57 := by decide
theorem ix_57 : ix 57 = 57 := by decide
theorem ib_57 {n : Nat} (h : 57 < n) : inb 57 n := ⟨by decide, by rw [show (57 : Int32).toInt = 57 by decide]; omega⟩
theorem nn_57 : ¬ (57 : Int32) < 0 := by decide
theorem bp_60 : (Int8.ofInt 60).toInt32 = 60 := by decide
theorem ix_60 : ix 60 = 60 := by decide
theorem ib_60 {n : Nat} (h : 60 < n) : inb 60 n := ⟨by decide, by rw [show (60 : Int32).toInt = 60 by decide]; omega⟩
theorem nn_60 : ¬ (60 : Int32) < 0 := by decide
theorem bp_61 : (Int8.ofInt 61).toInt32 = 61 := by decide
theorem ix_61 : ix 61 = 61 := by decide
theorem ib_61 {n : Nat} (h : 61 < n) : inb 61 n := ⟨by decide, by rw [show (61 : Int32).toInt = 61 by decide]; omega⟩
theorem nn_61 : ¬ (61 : Int32) < 0 := by decide
theorem bp_93 : (Int8.ofInt 93).toInt32 = 93 := by decide
theorem ix_93 : ix 93 = 93 := by decide
theorem ib_93 {n : Nat} (h : 93 < n) : inb 93 n := ⟨by decide, by rw [show (93 : Int32).toInt = 93 by decide]; omega⟩
theorem nn_93 : ¬ (93 : Int32) < 0 := by decide
theorem bp_99 : (Int8.ofInt 99).toInt32 = 99 := by decide
theorem ix_99 : ix 99 = 99 := by decide
theorem ib_99 {n : Nat} (h : 99 < n) : inb 99 n := ⟨by decide, by rw [show (99 : Int32).toInt = 99 by decide]; omega⟩
theorem nn_99 : ¬ (99 : Int32) < 0 := by decide
theorem bp_111 : (Int8.ofInt 111).toInt32 = 111 := by decide
theorem ix_111 : ix 111 = 111 := by decide
theorem ib_111 {n : Nat} (h : 111 < n) : inb 111 n := ⟨by decide, by rw [show (111 : Int32).toInt = 111 by decide]; omega⟩
theorem nn_111 : ¬ (111 : Int32) < 0 := by decide
theorem bp_120 : (Int8.ofInt 120).toInt32 = 120 := by decide
theorem ix_120 : ix 120 = 120 := by decide
theorem ib_120 {n : Nat} (h : 120 < n) : inb 120 n := ⟨by decide, by rw [show (120 : Int32).toInt = 120 by decide]; omega⟩
theorem nn_120 : ¬ (120 : Int32) < 0 := by decide
theorem bp_122 : (Int8.ofInt 122).toInt32 = 122 := by decide
theorem ix_122 : ix 122 = 122 := by decide
theorem ib_122 {n : Nat} (h : 122 < n) : inb 122 n := ⟨by decide, by rw [show (122 : Int32).toInt = 122 by decide]; omega⟩
theorem nn_122 : ¬ (122 : Int32) < 0 := by decide
theorem bp_126 : (Int8.ofInt 126).toInt32 = 126 := by decide
theorem ix_126 : ix 126 = 126 := by decide
theorem ib_126 {n : Nat} (h : 126 < n) : inb 126 n := ⟨by decide, by rw [show (126 : Int32).toInt = 126 by decide]; omega⟩
theorem nn_126 : ¬ (126 : Int32) < 0 := by decide
theorem sp_333 : (Int16.ofInt 333).toInt32 = 333 := by decide
theorem ix_333 : ix 333 = 333 := by decide
theorem ib_333 {n : Nat} (h : 333 < n) : inb 333 n := ⟨by decide, by rw [show (333 : Int32).toInt = 333 by decide]; omega⟩
theorem nn_333 : ¬ (333 : Int32) < 0 := by decide
theorem sp_444 : (Int16.ofInt 444).toInt32 = 444 := by decide
theorem ix_444 : ix 444 = 444 := by decide
theorem ib_444 {n : Nat} (h : 444 < n) : inb 444 n := ⟨by decide, by rw [show (444 : Int32).toInt = 444 by decide]; omega⟩
theorem nn_444 : ¬ (444 : Int32) < 0 := by decide
