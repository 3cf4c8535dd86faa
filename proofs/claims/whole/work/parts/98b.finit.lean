/-! THE FIRST OBJECTS: constructors of the office, of its searches, of the reference -/
theorem dX0_init_0 : decode cX0_init 0 = .ok (.aload_n 0, 1) := by decide +kernel
theorem dX0_init_1 : decode cX0_init 1 = .ok (.invokespecial 3, 3) := by decide +kernel
theorem dX0_init_4 : decode cX0_init 4 = .ok (.aload_n 0, 1) := by decide +kernel
theorem dX0_init_5 : decode cX0_init 5 = .ok (.iconst 0, 1) := by decide +kernel
theorem dX0_init_6 : decode cX0_init 6 = .ok (.putfield 9, 3) := by decide +kernel
theorem dX0_init_9 : decode cX0_init 9 = .ok (.aload_n 0, 1) := by decide +kernel
theorem dX0_init_10 : decode cX0_init 10 = .ok (.iconst 3, 1) := by decide +kernel
theorem dX0_init_11 : decode cX0_init 11 = .ok (.newarray .int, 2) := by decide +kernel
theorem dX0_init_13 : decode cX0_init 13 = .ok (.putfield 15, 3) := by decide +kernel
theorem dX0_init_16 : decode cX0_init 16 = .ok (.aload_n 0, 1) := by decide +kernel
theorem dX0_init_17 : decode cX0_init 17 = .ok (.iconst 3, 1) := by decide +kernel
theorem dX0_init_18 : decode cX0_init 18 = .ok (.newarray .int, 2) := by decide +kernel
theorem dX0_init_20 : decode cX0_init 20 = .ok (.putfield 19, 3) := by decide +kernel
theorem dX0_init_23 : decode cX0_init 23 = .ok (.aload_n 0, 1) := by decide +kernel
theorem dX0_init_24 : decode cX0_init 24 = .ok (.iconst 3, 1) := by decide +kernel
theorem dX0_init_25 : decode cX0_init 25 = .ok (.newarray .int, 2) := by decide +kernel
theorem dX0_init_27 : decode cX0_init 27 = .ok (.putfield 22, 3) := by decide +kernel
theorem dX0_init_30 : decode cX0_init 30 = .ok (.aload_n 0, 1) := by decide +kernel
theorem dX0_init_31 : decode cX0_init 31 = .ok (.iconst 3, 1) := by decide +kernel
theorem dX0_init_32 : decode cX0_init 32 = .ok (.newarray .int, 2) := by decide +kernel
theorem dX0_init_34 : decode cX0_init 34 = .ok (.putfield 25, 3) := by decide +kernel
theorem dX0_init_37 : decode cX0_init 37 = .ok (.aload_n 0, 1) := by decide +kernel
theorem dX0_init_38 : decode cX0_init 38 = .ok (.iconst 0, 1) := by decide +kernel
theorem dX0_init_39 : decode cX0_init 39 = .ok (.putfield 28, 3) := by decide +kernel
theorem dX0_init_42 : decode cX0_init 42 = .ok (.return_, 1) := by decide +kernel
theorem dX2_init_0 : decode cX2_init 0 = .ok (.aload_n 0, 1) := by decide +kernel
theorem dX2_init_1 : decode cX2_init 1 = .ok (.invokespecial 3, 3) := by decide +kernel
theorem dX2_init_4 : decode cX2_init 4 = .ok (.aload_n 0, 1) := by decide +kernel
theorem dX2_init_5 : decode cX2_init 5 = .ok (.new 9, 3) := by decide +kernel
theorem dX2_init_8 : decode cX2_init 8 = .ok (.dup, 1) := by decide +kernel
theorem dX2_init_9 : decode cX2_init 9 = .ok (.invokespecial 11, 3) := by decide +kernel
theorem dX2_init_12 : decode cX2_init 12 = .ok (.putfield 12, 3) := by decide +kernel
theorem dX2_init_15 : decode cX2_init 15 = .ok (.aload_n 0, 1) := by decide +kernel
theorem dX2_init_16 : decode cX2_init 16 = .ok (.iconst 4, 1) := by decide +kernel
theorem dX2_init_17 : decode cX2_init 17 = .ok (.newarray .int, 2) := by decide +kernel
theorem dX2_init_19 : decode cX2_init 19 = .ok (.putfield 18, 3) := by decide +kernel
theorem dX2_init_22 : decode cX2_init 22 = .ok (.aload_n 0, 1) := by decide +kernel
theorem dX2_init_23 : decode cX2_init 23 = .ok (.iconst 4, 1) := by decide +kernel
theorem dX2_init_24 : decode cX2_init 24 = .ok (.newarray .int, 2) := by decide +kernel
theorem dX2_init_26 : decode cX2_init 26 = .ok (.putfield 22, 3) := by decide +kernel
theorem dX2_init_29 : decode cX2_init 29 = .ok (.aload_n 0, 1) := by decide +kernel
theorem dX2_init_30 : decode cX2_init 30 = .ok (.iconst 0, 1) := by decide +kernel
theorem dX2_init_31 : decode cX2_init 31 = .ok (.putfield 25, 3) := by decide +kernel
theorem dX2_init_34 : decode cX2_init 34 = .ok (.aload_n 0, 1) := by decide +kernel
theorem dX2_init_35 : decode cX2_init 35 = .ok (.iconst 0, 1) := by decide +kernel
theorem dX2_init_36 : decode cX2_init 36 = .ok (.putfield 29, 3) := by decide +kernel
theorem dX2_init_39 : decode cX2_init 39 = .ok (.return_, 1) := by decide +kernel
theorem dX6_init_0 : decode cX6_init 0 = .ok (.aload_n 0, 1) := by decide +kernel
theorem dX6_init_1 : decode cX6_init 1 = .ok (.invokespecial 1, 3) := by decide +kernel
theorem dX6_init_4 : decode cX6_init 4 = .ok (.aload_n 0, 1) := by decide +kernel
theorem dX6_init_5 : decode cX6_init 5 = .ok (.new 7, 3) := by decide +kernel
theorem dX6_init_8 : decode cX6_init 8 = .ok (.dup, 1) := by decide +kernel
theorem dX6_init_9 : decode cX6_init 9 = .ok (.invokespecial 9, 3) := by decide +kernel
theorem dX6_init_12 : decode cX6_init 12 = .ok (.putfield 10, 3) := by decide +kernel
theorem dX6_init_15 : decode cX6_init 15 = .ok (.aload_n 0, 1) := by decide +kernel
theorem dX6_init_16 : decode cX6_init 16 = .ok (.new 7, 3) := by decide +kernel
theorem dX6_init_19 : decode cX6_init 19 = .ok (.dup, 1) := by decide +kernel
theorem dX6_init_20 : decode cX6_init 20 = .ok (.invokespecial 9, 3) := by decide +kernel
theorem dX6_init_23 : decode cX6_init 23 = .ok (.putfield 16, 3) := by decide +kernel
theorem dX6_init_26 : decode cX6_init 26 = .ok (.aload_n 0, 1) := by decide +kernel
theorem dX6_init_27 : decode cX6_init 27 = .ok (.new 7, 3) := by decide +kernel
theorem dX6_init_30 : decode cX6_init 30 = .ok (.dup, 1) := by decide +kernel
theorem dX6_init_31 : decode cX6_init 31 = .ok (.invokespecial 9, 3) := by decide +kernel
theorem dX6_init_34 : decode cX6_init 34 = .ok (.putfield 19, 3) := by decide +kernel
theorem dX6_init_37 : decode cX6_init 37 = .ok (.aload_n 0, 1) := by decide +kernel
theorem dX6_init_38 : decode cX6_init 38 = .ok (.new 22, 3) := by decide +kernel
theorem dX6_init_41 : decode cX6_init 41 = .ok (.dup, 1) := by decide +kernel
theorem dX6_init_42 : decode cX6_init 42 = .ok (.invokespecial 24, 3) := by decide +kernel
theorem dX6_init_45 : decode cX6_init 45 = .ok (.putfield 25, 3) := by decide +kernel
theorem dX6_init_48 : decode cX6_init 48 = .ok (.aload_n 0, 1) := by decide +kernel
theorem dX6_init_49 : decode cX6_init 49 = .ok (.new 29, 3) := by decide +kernel
theorem dX6_init_52 : decode cX6_init 52 = .ok (.dup, 1) := by decide +kernel
theorem dX6_init_53 : decode cX6_init 53 = .ok (.invokespecial 31, 3) := by decide +kernel
theorem dX6_init_56 : decode cX6_init 56 = .ok (.putfield 32, 3) := by decide +kernel
theorem dX6_init_59 : decode cX6_init 59 = .ok (.aload_n 0, 1) := by decide +kernel
theorem dX6_init_60 : decode cX6_init 60 = .ok (.iconst 0, 1) := by decide +kernel
theorem dX6_init_61 : decode cX6_init 61 = .ok (.putfield 36, 3) := by decide +kernel
theorem dX6_init_64 : decode cX6_init 64 = .ok (.aload_n 0, 1) := by decide +kernel
theorem dX6_init_65 : decode cX6_init 65 = .ok (.bipush 14, 2) := by decide +kernel
theorem dX6_init_67 : decode cX6_init 67 = .ok (.putfield 40, 3) := by decide +kernel
theorem dX6_init_70 : decode cX6_init 70 = .ok (.aload_n 0, 1) := by decide +kernel
theorem dX6_init_71 : decode cX6_init 71 = .ok (.bipush 72, 2) := by decide +kernel
theorem dX6_init_73 : decode cX6_init 73 = .ok (.putfield 43, 3) := by decide +kernel
theorem dX6_init_76 : decode cX6_init 76 = .ok (.return_, 1) := by decide +kernel
theorem dX7_init_0 : decode cX7_init 0 = .ok (.aload_n 0, 1) := by decide +kernel
theorem dX7_init_1 : decode cX7_init 1 = .ok (.invokespecial 1, 3) := by decide +kernel
theorem dX7_init_4 : decode cX7_init 4 = .ok (.aload_n 0, 1) := by decide +kernel
theorem dX7_init_5 : decode cX7_init 5 = .ok (.bipush 14, 2) := by decide +kernel
theorem dX7_init_7 : decode cX7_init 7 = .ok (.putfield 7, 3) := by decide +kernel
theorem dX7_init_10 : decode cX7_init 10 = .ok (.aload_n 0, 1) := by decide +kernel
theorem dX7_init_11 : decode cX7_init 11 = .ok (.bipush 72, 2) := by decide +kernel
theorem dX7_init_13 : decode cX7_init 13 = .ok (.putfield 13, 3) := by decide +kernel
theorem dX7_init_16 : decode cX7_init 16 = .ok (.aload_n 0, 1) := by decide +kernel
theorem dX7_init_17 : decode cX7_init 17 = .ok (.bipush 32, 2) := by decide +kernel
theorem dX7_init_19 : decode cX7_init 19 = .ok (.newarray .boolean, 2) := by decide +kernel
theorem dX7_init_21 : decode cX7_init 21 = .ok (.putfield 16, 3) := by decide +kernel
theorem dX7_init_24 : decode cX7_init 24 = .ok (.aload_n 0, 1) := by decide +kernel
theorem dX7_init_25 : decode cX7_init 25 = .ok (.sipush 336, 3) := by decide +kernel
theorem dX7_init_28 : decode cX7_init 28 = .ok (.newarray .boolean, 2) := by decide +kernel
theorem dX7_init_30 : decode cX7_init 30 = .ok (.putfield 20, 3) := by decide +kernel
theorem dX7_init_33 : decode cX7_init 33 = .ok (.aload_n 0, 1) := by decide +kernel
theorem dX7_init_34 : decode cX7_init 34 = .ok (.sipush 336, 3) := by decide +kernel
theorem dX7_init_37 : decode cX7_init 37 = .ok (.newarray .boolean, 2) := by decide +kernel
theorem dX7_init_39 : decode cX7_init 39 = .ok (.putfield 23, 3) := by decide +kernel
theorem dX7_init_42 : decode cX7_init 42 = .ok (.aload_n 0, 1) := by decide +kernel
theorem dX7_init_43 : decode cX7_init 43 = .ok (.bipush 8, 2) := by decide +kernel
theorem dX7_init_45 : decode cX7_init 45 = .ok (.newarray .boolean, 2) := by decide +kernel
theorem dX7_init_47 : decode cX7_init 47 = .ok (.putfield 26, 3) := by decide +kernel
theorem dX7_init_50 : decode cX7_init 50 = .ok (.aload_n 0, 1) := by decide +kernel
theorem dX7_init_51 : decode cX7_init 51 = .ok (.bipush 32, 2) := by decide +kernel
theorem dX7_init_53 : decode cX7_init 53 = .ok (.newarray .int, 2) := by decide +kernel
theorem dX7_init_55 : decode cX7_init 55 = .ok (.putfield 29, 3) := by decide +kernel
theorem dX7_init_58 : decode cX7_init 58 = .ok (.aload_n 0, 1) := by decide +kernel
theorem dX7_init_59 : decode cX7_init 59 = .ok (.bipush 32, 2) := by decide +kernel
theorem dX7_init_61 : decode cX7_init 61 = .ok (.newarray .int, 2) := by decide +kernel
theorem dX7_init_63 : decode cX7_init 63 = .ok (.putfield 33, 3) := by decide +kernel
theorem dX7_init_66 : decode cX7_init 66 = .ok (.aload_n 0, 1) := by decide +kernel
theorem dX7_init_67 : decode cX7_init 67 = .ok (.bipush 8, 2) := by decide +kernel
theorem dX7_init_69 : decode cX7_init 69 = .ok (.newarray .int, 2) := by decide +kernel
theorem dX7_init_71 : decode cX7_init 71 = .ok (.putfield 36, 3) := by decide +kernel
theorem dX7_init_74 : decode cX7_init 74 = .ok (.aload_n 0, 1) := by decide +kernel
theorem dX7_init_75 : decode cX7_init 75 = .ok (.bipush 8, 2) := by decide +kernel
theorem dX7_init_77 : decode cX7_init 77 = .ok (.newarray .int, 2) := by decide +kernel
theorem dX7_init_79 : decode cX7_init 79 = .ok (.putfield 39, 3) := by decide +kernel
theorem dX7_init_82 : decode cX7_init 82 = .ok (.aload_n 0, 1) := by decide +kernel
theorem dX7_init_83 : decode cX7_init 83 = .ok (.iconst 4, 1) := by decide +kernel
theorem dX7_init_84 : decode cX7_init 84 = .ok (.newarray .int, 2) := by decide +kernel
theorem dX7_init_86 : decode cX7_init 86 = .ok (.putfield 42, 3) := by decide +kernel
theorem dX7_init_89 : decode cX7_init 89 = .ok (.aload_n 0, 1) := by decide +kernel
theorem dX7_init_90 : decode cX7_init 90 = .ok (.bipush 12, 2) := by decide +kernel
theorem dX7_init_92 : decode cX7_init 92 = .ok (.newarray .int, 2) := by decide +kernel
theorem dX7_init_94 : decode cX7_init 94 = .ok (.putfield 45, 3) := by decide +kernel
theorem dX7_init_97 : decode cX7_init 97 = .ok (.aload_n 0, 1) := by decide +kernel
theorem dX7_init_98 : decode cX7_init 98 = .ok (.bipush 24, 2) := by decide +kernel
theorem dX7_init_100 : decode cX7_init 100 = .ok (.newarray .int, 2) := by decide +kernel
theorem dX7_init_102 : decode cX7_init 102 = .ok (.putfield 48, 3) := by decide +kernel
theorem dX7_init_105 : decode cX7_init 105 = .ok (.aload_n 0, 1) := by decide +kernel
theorem dX7_init_106 : decode cX7_init 106 = .ok (.bipush 24, 2) := by decide +kernel
theorem dX7_init_108 : decode cX7_init 108 = .ok (.newarray .int, 2) := by decide +kernel
theorem dX7_init_110 : decode cX7_init 110 = .ok (.putfield 51, 3) := by decide +kernel
theorem dX7_init_113 : decode cX7_init 113 = .ok (.aload_n 0, 1) := by decide +kernel
theorem dX7_init_114 : decode cX7_init 114 = .ok (.bipush 24, 2) := by decide +kernel
theorem dX7_init_116 : decode cX7_init 116 = .ok (.newarray .int, 2) := by decide +kernel
theorem dX7_init_118 : decode cX7_init 118 = .ok (.putfield 54, 3) := by decide +kernel
theorem dX7_init_121 : decode cX7_init 121 = .ok (.aload_n 0, 1) := by decide +kernel
theorem dX7_init_122 : decode cX7_init 122 = .ok (.bipush 24, 2) := by decide +kernel
theorem dX7_init_124 : decode cX7_init 124 = .ok (.newarray .int, 2) := by decide +kernel
theorem dX7_init_126 : decode cX7_init 126 = .ok (.putfield 57, 3) := by decide +kernel
theorem dX7_init_129 : decode cX7_init 129 = .ok (.aload_n 0, 1) := by decide +kernel
theorem dX7_init_130 : decode cX7_init 130 = .ok (.bipush 72, 2) := by decide +kernel
theorem dX7_init_132 : decode cX7_init 132 = .ok (.newarray .int, 2) := by decide +kernel
theorem dX7_init_134 : decode cX7_init 134 = .ok (.putfield 60, 3) := by decide +kernel
theorem dX7_init_137 : decode cX7_init 137 = .ok (.aload_n 0, 1) := by decide +kernel
theorem dX7_init_138 : decode cX7_init 138 = .ok (.sipush 1001, 3) := by decide +kernel
theorem dX7_init_141 : decode cX7_init 141 = .ok (.newarray .int, 2) := by decide +kernel
theorem dX7_init_143 : decode cX7_init 143 = .ok (.putfield 63, 3) := by decide +kernel
theorem dX7_init_146 : decode cX7_init 146 = .ok (.aload_n 0, 1) := by decide +kernel
theorem dX7_init_147 : decode cX7_init 147 = .ok (.iconst 3, 1) := by decide +kernel
theorem dX7_init_148 : decode cX7_init 148 = .ok (.newarray .int, 2) := by decide +kernel
theorem dX7_init_150 : decode cX7_init 150 = .ok (.putfield 66, 3) := by decide +kernel
theorem dX7_init_153 : decode cX7_init 153 = .ok (.aload_n 0, 1) := by decide +kernel
theorem dX7_init_154 : decode cX7_init 154 = .ok (.iconst 3, 1) := by decide +kernel
theorem dX7_init_155 : decode cX7_init 155 = .ok (.newarray .int, 2) := by decide +kernel
theorem dX7_init_157 : decode cX7_init 157 = .ok (.putfield 69, 3) := by decide +kernel
theorem dX7_init_160 : decode cX7_init 160 = .ok (.aload_n 0, 1) := by decide +kernel
theorem dX7_init_161 : decode cX7_init 161 = .ok (.bipush 24, 2) := by decide +kernel
theorem dX7_init_163 : decode cX7_init 163 = .ok (.newarray .boolean, 2) := by decide +kernel
theorem dX7_init_165 : decode cX7_init 165 = .ok (.putfield 72, 3) := by decide +kernel
theorem dX7_init_168 : decode cX7_init 168 = .ok (.aload_n 0, 1) := by decide +kernel
theorem dX7_init_169 : decode cX7_init 169 = .ok (.iconst 4, 1) := by decide +kernel
theorem dX7_init_170 : decode cX7_init 170 = .ok (.newarray .int, 2) := by decide +kernel
theorem dX7_init_172 : decode cX7_init 172 = .ok (.putfield 75, 3) := by decide +kernel
theorem dX7_init_175 : decode cX7_init 175 = .ok (.aload_n 0, 1) := by decide +kernel
theorem dX7_init_176 : decode cX7_init 176 = .ok (.iconst 4, 1) := by decide +kernel
theorem dX7_init_177 : decode cX7_init 177 = .ok (.newarray .int, 2) := by decide +kernel
theorem dX7_init_179 : decode cX7_init 179 = .ok (.putfield 78, 3) := by decide +kernel
theorem dX7_init_182 : decode cX7_init 182 = .ok (.aload_n 0, 1) := by decide +kernel
theorem dX7_init_183 : decode cX7_init 183 = .ok (.bipush 72, 2) := by decide +kernel
theorem dX7_init_185 : decode cX7_init 185 = .ok (.newarray .int, 2) := by decide +kernel
theorem dX7_init_187 : decode cX7_init 187 = .ok (.putfield 81, 3) := by decide +kernel
theorem dX7_init_190 : decode cX7_init 190 = .ok (.aload_n 0, 1) := by decide +kernel
theorem dX7_init_191 : decode cX7_init 191 = .ok (.bipush 24, 2) := by decide +kernel
theorem dX7_init_193 : decode cX7_init 193 = .ok (.newarray .int, 2) := by decide +kernel
theorem dX7_init_195 : decode cX7_init 195 = .ok (.putfield 84, 3) := by decide +kernel
theorem dX7_init_198 : decode cX7_init 198 = .ok (.aload_n 0, 1) := by decide +kernel
theorem dX7_init_199 : decode cX7_init 199 = .ok (.bipush 72, 2) := by decide +kernel
theorem dX7_init_201 : decode cX7_init 201 = .ok (.newarray .int, 2) := by decide +kernel
theorem dX7_init_203 : decode cX7_init 203 = .ok (.putfield 87, 3) := by decide +kernel
theorem dX7_init_206 : decode cX7_init 206 = .ok (.aload_n 0, 1) := by decide +kernel
theorem dX7_init_207 : decode cX7_init 207 = .ok (.bipush 24, 2) := by decide +kernel
theorem dX7_init_209 : decode cX7_init 209 = .ok (.newarray .int, 2) := by decide +kernel
theorem dX7_init_211 : decode cX7_init 211 = .ok (.putfield 90, 3) := by decide +kernel
theorem dX7_init_214 : decode cX7_init 214 = .ok (.return_, 1) := by decide +kernel
theorem dJxa1e45_init_da8c8_0 : decode cJxa1e45_init_da8c8 0 = .ok (.aload_n 0, 1) := by decide +kernel
theorem dJxa1e45_init_da8c8_1 : decode cJxa1e45_init_da8c8 1 = .ok (.invokespecial 1, 3) := by decide +kernel
theorem dJxa1e45_init_da8c8_4 : decode cJxa1e45_init_da8c8 4 = .ok (.return_, 1) := by decide +kernel
theorem dJxc12de_init_da8c8_0 : decode cJxc12de_init_da8c8 0 = .ok (.aload_n 0, 1) := by decide +kernel
theorem dJxc12de_init_da8c8_1 : decode cJxc12de_init_da8c8 1 = .ok (.invokespecial 1, 3) := by decide +kernel
theorem dJxc12de_init_da8c8_4 : decode cJxc12de_init_da8c8 4 = .ok (.aload_n 0, 1) := by decide +kernel
theorem dJxc12de_init_da8c8_5 : decode cJxc12de_init_da8c8 5 = .ok (.iconst 0, 1) := by decide +kernel
theorem dJxc12de_init_da8c8_6 : decode cJxc12de_init_da8c8 6 = .ok (.putfield 7, 3) := by decide +kernel
theorem dJxc12de_init_da8c8_9 : decode cJxc12de_init_da8c8 9 = .ok (.return_, 1) := by decide +kernel
theorem eJx4a65c_init_da8c8_0 : decode cJx4a65c_init_da8c8 0 = .ok (.aload_n 0, 1) := by decide +kernel
theorem eJx4a65c_init_da8c8_1 : decode cJx4a65c_init_da8c8 1 = .ok (.invokespecial 1, 3) := by decide +kernel
theorem eJx4a65c_init_da8c8_4 : decode cJx4a65c_init_da8c8 4 = .ok (.aload_n 0, 1) := by decide +kernel
theorem eJx4a65c_init_da8c8_5 : decode cJx4a65c_init_da8c8 5 = .ok (.getstatic 39, 3) := by decide +kernel
theorem eJx4a65c_init_da8c8_8 : decode cJx4a65c_init_da8c8 8 = .ok (.putfield 9, 3) := by decide +kernel
theorem eJx4a65c_init_da8c8_11 : decode cJx4a65c_init_da8c8 11 = .ok (.return_, 1) := by decide +kernel
set_option maxRecDepth 100000 in
theorem lz_az : (Jvm.Cond.arrayClass .boolean : Jvm.Cond) ∈ lw_good := by decide +kernel
set_option maxRecDepth 100000 in
theorem lz_oX0 : (Jvm.Cond.methodLink RX0 3 objectInit : Jvm.Cond) ∈ lw_good := by decide +kernel
set_option maxRecDepth 100000 in
theorem lz_oX2 : (Jvm.Cond.methodLink RX2 3 objectInit : Jvm.Cond) ∈ lw_good := by decide +kernel
set_option maxRecDepth 100000 in
theorem lz_oX6 : (Jvm.Cond.methodLink RX6 1 objectInit : Jvm.Cond) ∈ lw_good := by decide +kernel
set_option maxRecDepth 100000 in
theorem lz_oX7 : (Jvm.Cond.methodLink RX7 1 objectInit : Jvm.Cond) ∈ lw_good := by decide +kernel
set_option maxRecDepth 100000 in
theorem lz_oJxa1e45 : (Jvm.Cond.methodLink RJxa1e45 1 objectInit : Jvm.Cond) ∈ lw_good := by decide +kernel
set_option maxRecDepth 100000 in
theorem lz_l_ac : (Jvm.Cond.methodLink RJxc12de 1 yJxa1e45_init_da8c8 : Jvm.Cond) ∈ lw_good := by decide +kernel
set_option maxRecDepth 100000 in
theorem lz_l_al : (Jvm.Cond.methodLink RJx4a65c 1 yJxc12de_init_da8c8 : Jvm.Cond) ∈ lw_good := by decide +kernel
set_option maxRecDepth 100000 in
theorem lz_c_ac : (Jvm.Cond.code yJxa1e45_init_da8c8 cJxa1e45_init_da8c8 1 none : Jvm.Cond) ∈ lw_good := by decide +kernel
set_option maxRecDepth 100000 in
theorem lz_m_ac : (Jvm.Cond.instanceMethod yJxa1e45_init_da8c8 : Jvm.Cond) ∈ lw_good := by decide +kernel
set_option maxRecDepth 100000 in
theorem lz_c_al : (Jvm.Cond.code yJxc12de_init_da8c8 cJxc12de_init_da8c8 1 none : Jvm.Cond) ∈ lw_good := by decide +kernel
set_option maxRecDepth 100000 in
theorem lz_m_al : (Jvm.Cond.instanceMethod yJxc12de_init_da8c8 : Jvm.Cond) ∈ lw_good := by decide +kernel
set_option maxRecDepth 100000 in
theorem lz_c_ar : (Jvm.Cond.code yJx4a65c_init_da8c8 cJx4a65c_init_da8c8 1 none : Jvm.Cond) ∈ lw_good := by decide +kernel
set_option maxRecDepth 100000 in
theorem lz_m_ar : (Jvm.Cond.instanceMethod yJx4a65c_init_da8c8 : Jvm.Cond) ∈ lw_good := by decide +kernel
set_option maxRecDepth 100000 in
theorem lz_c_c : (Jvm.Cond.code yX0_init cX0_init 1 none : Jvm.Cond) ∈ lw_good := by decide +kernel
set_option maxRecDepth 100000 in
theorem lz_m_c : (Jvm.Cond.instanceMethod yX0_init : Jvm.Cond) ∈ lw_good := by decide +kernel
set_option maxRecDepth 100000 in
theorem lz_c_o : (Jvm.Cond.code yX2_init cX2_init 1 none : Jvm.Cond) ∈ lw_good := by decide +kernel
set_option maxRecDepth 100000 in
theorem lz_m_o : (Jvm.Cond.instanceMethod yX2_init : Jvm.Cond) ∈ lw_good := by decide +kernel
set_option maxRecDepth 100000 in
theorem lz_c_f : (Jvm.Cond.code yX6_init cX6_init 1 none : Jvm.Cond) ∈ lw_good := by decide +kernel
set_option maxRecDepth 100000 in
theorem lz_m_f : (Jvm.Cond.instanceMethod yX6_init : Jvm.Cond) ∈ lw_good := by decide +kernel
set_option maxRecDepth 100000 in
theorem lz_c_m : (Jvm.Cond.code yX7_init cX7_init 1 none : Jvm.Cond) ∈ lw_good := by decide +kernel
set_option maxRecDepth 100000 in
theorem lz_m_m : (Jvm.Cond.instanceMethod yX7_init : Jvm.Cond) ∈ lw_good := by decide +kernel
set_option maxRecDepth 100000 in
theorem lz_n_ac : (Jvm.Cond.initialized RJxa1e45 : Jvm.Cond) ∈ lw_good := by decide +kernel
set_option maxRecDepth 100000 in
theorem lz_n_al : (Jvm.Cond.initialized RJxc12de : Jvm.Cond) ∈ lw_good := by decide +kernel
set_option maxRecDepth 100000 in
theorem lz_n_ar : (Jvm.Cond.initialized RJx4a65c : Jvm.Cond) ∈ lw_good := by decide +kernel
set_option maxRecDepth 100000 in
theorem lz_n_c : (Jvm.Cond.initialized RX0 : Jvm.Cond) ∈ lw_good := by decide +kernel
set_option maxRecDepth 100000 in
theorem lz_n_o : (Jvm.Cond.initialized RX2 : Jvm.Cond) ∈ lw_good := by decide +kernel
set_option maxRecDepth 100000 in
theorem lz_n_f : (Jvm.Cond.initialized RX6 : Jvm.Cond) ∈ lw_good := by decide +kernel
set_option maxRecDepth 100000 in
theorem lz_n_m : (Jvm.Cond.initialized RX7 : Jvm.Cond) ∈ lw_good := by decide +kernel
set_option maxRecDepth 100000 in
theorem lz_i_ar : (Jvm.Cond.instantiable RJx4a65c 3 : Jvm.Cond) ∈ lw_good := by decide +kernel
set_option maxRecDepth 100000 in
theorem lz_i_c : (Jvm.Cond.instantiable RX0 6 : Jvm.Cond) ∈ lw_good := by decide +kernel
set_option maxRecDepth 100000 in
theorem lz_i_o : (Jvm.Cond.instantiable RX2 5 : Jvm.Cond) ∈ lw_good := by decide +kernel
set_option maxRecDepth 100000 in
theorem lz_i_f : (Jvm.Cond.instantiable RX6 8 : Jvm.Cond) ∈ lw_good := by decide +kernel
set_option maxRecDepth 100000 in
theorem lz_i_m : (Jvm.Cond.instantiable RX7 33 : Jvm.Cond) ∈ lw_good := by decide +kernel
set_option maxRecDepth 100000 in
theorem lz_fmod : (Jvm.Cond.fieldLink RJxc12de 7 "java/util/AbstractList" "modCount" "I" : Jvm.Cond) ∈ lw_good := by decide +kernel
set_option maxRecDepth 100000 in
theorem lz_fX0_9 : (Jvm.Cond.fieldLink RX0 9 "Ferryroster$CrewSearch" "posts" "I" : Jvm.Cond) ∈ lw_good := by decide +kernel
set_option maxRecDepth 100000 in
theorem lz_fX0_15 : (Jvm.Cond.fieldLink RX0 15 "Ferryroster$CrewSearch" "before" "[I" : Jvm.Cond) ∈ lw_good := by decide +kernel
set_option maxRecDepth 100000 in
theorem lz_fX0_19 : (Jvm.Cond.fieldLink RX0 19 "Ferryroster$CrewSearch" "allowed" "[I" : Jvm.Cond) ∈ lw_good := by decide +kernel
set_option maxRecDepth 100000 in
theorem lz_fX0_22 : (Jvm.Cond.fieldLink RX0 22 "Ferryroster$CrewSearch" "tried" "[I" : Jvm.Cond) ∈ lw_good := by decide +kernel
set_option maxRecDepth 100000 in
theorem lz_fX0_25 : (Jvm.Cond.fieldLink RX0 25 "Ferryroster$CrewSearch" "found" "[I" : Jvm.Cond) ∈ lw_good := by decide +kernel
set_option maxRecDepth 100000 in
theorem lz_fX0_28 : (Jvm.Cond.fieldLink RX0 28 "Ferryroster$CrewSearch" "fewestChanges" "I" : Jvm.Cond) ∈ lw_good := by decide +kernel
set_option maxRecDepth 100000 in
theorem lz_fX2_12 : (Jvm.Cond.fieldLink RX2 12 "Ferryroster$OrderSearch" "looked" "Ljava/util/List;" : Jvm.Cond) ∈ lw_good := by decide +kernel
set_option maxRecDepth 100000 in
theorem lz_fX2_18 : (Jvm.Cond.fieldLink RX2 18 "Ferryroster$OrderSearch" "tried" "[I" : Jvm.Cond) ∈ lw_good := by decide +kernel
set_option maxRecDepth 100000 in
theorem lz_fX2_22 : (Jvm.Cond.fieldLink RX2 22 "Ferryroster$OrderSearch" "best" "[I" : Jvm.Cond) ∈ lw_good := by decide +kernel
set_option maxRecDepth 100000 in
theorem lz_fX2_25 : (Jvm.Cond.fieldLink RX2 25 "Ferryroster$OrderSearch" "fewestCancelled" "I" : Jvm.Cond) ∈ lw_good := by decide +kernel
set_option maxRecDepth 100000 in
theorem lz_fX2_29 : (Jvm.Cond.fieldLink RX2 29 "Ferryroster$OrderSearch" "fewestChanges" "I" : Jvm.Cond) ∈ lw_good := by decide +kernel
set_option maxRecDepth 100000 in
theorem lz_fX6_10 : (Jvm.Cond.fieldLink RX6 10 "Ferryroster" "people" "Ljava/util/List;" : Jvm.Cond) ∈ lw_good := by decide +kernel
set_option maxRecDepth 100000 in
theorem lz_fX6_16 : (Jvm.Cond.fieldLink RX6 16 "Ferryroster" "ships" "Ljava/util/List;" : Jvm.Cond) ∈ lw_good := by decide +kernel
set_option maxRecDepth 100000 in
theorem lz_fX6_19 : (Jvm.Cond.fieldLink RX6 19 "Ferryroster" "voyages" "Ljava/util/List;" : Jvm.Cond) ∈ lw_good := by decide +kernel
set_option maxRecDepth 100000 in
theorem lz_fX6_25 : (Jvm.Cond.fieldLink RX6 25 "Ferryroster" "crewSearch" "LFerryroster$CrewSearch;" : Jvm.Cond) ∈ lw_good := by decide +kernel
set_option maxRecDepth 100000 in
theorem lz_fX6_32 : (Jvm.Cond.fieldLink RX6 32 "Ferryroster" "orderSearch" "LFerryroster$OrderSearch;" : Jvm.Cond) ∈ lw_good := by decide +kernel
set_option maxRecDepth 100000 in
theorem lz_fX6_36 : (Jvm.Cond.fieldLink RX6 36 "Ferryroster" "hour" "I" : Jvm.Cond) ∈ lw_good := by decide +kernel
set_option maxRecDepth 100000 in
theorem lz_fX6_40 : (Jvm.Cond.fieldLink RX6 40 "Ferryroster" "dayRule" "I" : Jvm.Cond) ∈ lw_good := by decide +kernel
set_option maxRecDepth 100000 in
theorem lz_fX6_43 : (Jvm.Cond.fieldLink RX6 43 "Ferryroster" "weekRule" "I" : Jvm.Cond) ∈ lw_good := by decide +kernel
set_option maxRecDepth 100000 in
theorem lz_k2_9 : (Jvm.Cond.classLink RX2 9 RJx4a65c : Jvm.Cond) ∈ lw_good := by decide +kernel
set_option maxRecDepth 100000 in
theorem lz_l2_11 : (Jvm.Cond.methodLink RX2 11 yJx4a65c_init_da8c8 : Jvm.Cond) ∈ lw_good := by decide +kernel
set_option maxRecDepth 100000 in
theorem lz_k6_7 : (Jvm.Cond.classLink RX6 7 RJx4a65c : Jvm.Cond) ∈ lw_good := by decide +kernel
set_option maxRecDepth 100000 in
theorem lz_l6_9 : (Jvm.Cond.methodLink RX6 9 yJx4a65c_init_da8c8 : Jvm.Cond) ∈ lw_good := by decide +kernel
set_option maxRecDepth 100000 in
theorem lz_k6_22 : (Jvm.Cond.classLink RX6 22 RX0 : Jvm.Cond) ∈ lw_good := by decide +kernel
set_option maxRecDepth 100000 in
theorem lz_k6_29 : (Jvm.Cond.classLink RX6 29 RX2 : Jvm.Cond) ∈ lw_good := by decide +kernel
set_option maxRecDepth 100000 in
theorem lz_n6_24 : (Jvm.Cond.methodLinkNest RX6 24 yX0_init "Ferryroster" : Jvm.Cond) ∈ lw_tbl := by decide +kernel
set_option maxRecDepth 100000 in
theorem lz_n6_31 : (Jvm.Cond.methodLinkNest RX6 31 yX2_init "Ferryroster" : Jvm.Cond) ∈ lw_tbl := by decide +kernel
def qd_ac : mMeth := (yJxa1e45_init_da8c8, cJxa1e45_init_da8c8, 1, none, 1, false, 0, 0, 3)
def qd_al : mMeth := (yJxc12de_init_da8c8, cJxc12de_init_da8c8, 1, none, 1, false, 0, 0, 3)
def qd_ar : mMeth := (yJx4a65c_init_da8c8, cJx4a65c_init_da8c8, 1, none, 1, false, 0, 0, 3)
def qd_c : mMeth := (yX0_init, cX0_init, 1, none, 1, false, 0, 0, 4)
def qd_o : mMeth := (yX2_init, cX2_init, 1, none, 1, false, 0, 0, 6)
def qd_f : mMeth := (yX6_init, cX6_init, 1, none, 1, false, 0, 0, 10)
def qd_m : mMeth := (yX7_init, cX7_init, 1, none, 1, false, 0, 0, 11)
theorem lbool_cls {E : mEnv} {S : mStr} {s : State} {cA : ClassId} (T : lT E S s) (h : va_RA s cA .boolean) : cA = eC E 1 := by
  have h2 : va_RA s (eC E 1) .boolean := (T.1.1.2 1 _ rfl).2
  have h1 : s.vm.findClass ("[" ++ FieldType.boolean.toString) = some cA := h
  have h3 : s.vm.findClass ("[" ++ FieldType.boolean.toString) = some (eC E 1) := h2
  exact Option.some.inj (h1.symm.trans h3)
theorem AC_A {d sz q : Nat} {e : va_E} (h : AC d sz q) : va_A [(d, e)] sz q := h.elim (fun h => Or.inl ⟨0, e, by rw [h]; rfl⟩) Or.inr
theorem A_AC {d sz q : Nat} {e : va_E} (h : va_A [(d, e)] sz q) : AC d sz q := by
  rcases h with ⟨k, e2, h⟩ | h
  · have a1 := (List.getElem?_eq_some_iff.mp h).1
    simp at a1
    subst a1
    cases h
    exact Or.inl rfl
  · exact Or.inr h
set_option maxHeartbeats 4000000 in
set_option maxRecDepth 100000 in
theorem c_acol (l : Launch) (E : mEnv) (S : mStr) {sz q0 : Nat} : Met l (qY qd_ac) (qWs qd_ac) (lR 1 0 0) (lP E S sz [.ref q0] (fun H => True)) (va_Qv (fun _ : Unit => True) (fun _ _ => True) (fun _ : Nat => False)) 0 0 (fun _ : Nat => False) := by
  refine Met.ofW (cc := cJxa1e45_init_da8c8) (maxL := 1) (ret := none) (by decide) rfl ?_
  intro p e s m args below meth c s₁ B hml hv
  obtain ⟨rfl, T, hsz, -⟩ := hv
  subst hsz
  have hx := B.exec
  have hb := B.bytes
  have hr := B.returns
  have hts := fun w hw => atoms_spec (ws := qWs qd_ac) B.pre w (List.mem_cons_of_mem _ hw)
  have hown : s.vm.findClass RJxa1e45 = some m.cls := findClass_of_methodNamed B.named
  have hlocks := B.notSynchronized
  have X : lC E S p s m c cJxa1e45_init_da8c8 1 _ RJxa1e45 := ⟨⟨hx, hb, hml, hown, hts⟩, T⟩
  have hS : va_S (fun _ : Nat => False) s.heap s.heap [] := va_S.rf
  have hl := lv_entry ([.ref q0]) (n := 1) (Nat.le_of_ble_eq_true rfl)
  rw [lg_entry_eq]
  generalize (lg_sl ([.ref q0]) ++ List.replicate (1 - (lg_sl ([.ref q0])).length) Slot.unset).toArray = ls at hl ⊢
  have hl : lv_has ls 1 [(0, .ref q0)] := hl
  refine lv_aload_n hx hb dJxa1e45_init_da8c8_0 rfl (lv_at hl 0 rfl) ?_
  refine W.objInit hx hb hown (hts _ lz_oJxa1e45) (hts _ lb_oi) (hts _ lb_oc) rfl (by rw [hml]; exact hl.1) rfl dJxa1e45_init_da8c8_1 (Nat.le_of_ble_eq_true rfl) (Nat.le_of_ble_eq_true rfl) ?_
  refine W.eq (g2 := F0 m 4 ls []) rfl ?_
  exact W.vret hx hb hr (fun t ht hW => ⟨⟨(), rfl, trivial, trivial⟩, hS.F ht⟩) hS.2.2 dJxa1e45_init_da8c8_4
set_option maxHeartbeats 4000000 in
set_option maxRecDepth 100000 in
theorem c_alist (l : Launch) (E : mEnv) (S : mStr) {sz q0 : Nat} : Met l (qY qd_al) (qWs qd_al) (lR 2 0 0) (lP E S sz [.ref q0] (fun H => va_at (eD E) vwCl (q0, .inr (3, [.int 0, .null, .int 0])) H)) (va_Qv (fun _ : Unit => True) (fun _ t => va_at (eD E) vwCl (q0, .inr (3, [.int 0, .null, .int 0])) t.heap) (fun q : Nat => q = q0)) 0 0 (fun q : Nat => q = q0) := by
  refine Met.ofW (cc := cJxc12de_init_da8c8) (maxL := 1) (ret := none) (by decide) rfl ?_
  intro p e s m args below meth c s₁ B hml hv
  obtain ⟨rfl, T, hsz, hw⟩ := hv
  subst hsz
  have hx := B.exec
  have hb := B.bytes
  have hr := B.returns
  have hts := fun w hw => atoms_spec (ws := qWs qd_al) B.pre w (List.mem_cons_of_mem _ hw)
  have hown : s.vm.findClass RJxc12de = some m.cls := findClass_of_methodNamed B.named
  have hlocks := B.notSynchronized
  have X : lC E S p s m c cJxc12de_init_da8c8 1 _ RJxc12de := ⟨⟨hx, hb, hml, hown, hts⟩, T⟩
  have hS : va_S (fun q : Nat => q = q0) s.heap s.heap [] := va_S.rf
  have hl := lv_entry ([.ref q0]) (n := 1) (Nat.le_of_ble_eq_true rfl)
  rw [lg_entry_eq]
  generalize (lg_sl ([.ref q0]) ++ List.replicate (1 - (lg_sl ([.ref q0])).length) Slot.unset).toArray = ls at hl ⊢
  have hl : lv_has ls 1 [(0, .ref q0)] := hl
  have hB9 := T.2
  refine lv_aload_n hx hb dJxc12de_init_da8c8_0 rfl (lv_at hl 0 rfl) ?_
  refine va_callv (lc_I (n := 0) (q := qd_ac) (As := []) (rest := []) X ⟨lz_c_ac, lz_n_ac, lz_m_ac⟩ rfl rfl (by decide) ⟨by decide, by decide⟩ (by decide +kernel) lz_l_ac (c_acol (q0 := q0) l E S) lP.blind (fun U hU hW => ⟨rfl, T.warm hB9 hU hW, by rw [hU], trivial⟩) rfl hl.1 rfl (Nat.le_of_ble_eq_true rfl) (Nat.le_of_ble_eq_true rfl) (Nat.le_of_ble_eq_true rfl) ⟨Nat.le_of_ble_eq_true rfl, Nat.le_of_ble_eq_true rfl⟩ dJxc12de_init_da8c8_1) hS (fun q _ h => h.elim) (fun q h => h.elim) (fun u t H1 locs1 ht hvm hpv hB hz hk1 hS => ?_)
  have hw1 := hw.kept (hk1 _ hw.lt id)
  refine lv_aload_n hx hb dJxc12de_init_da8c8_4 rfl (lv_at hl 0 rfl) ?_
  refine lv_iconst (v := 0) hx hb dJxc12de_init_da8c8_5 (by decide) ?_
  refine mw_put (D := eD E) (ci := 3) (v := .int 0) (ty := .int) (C := RJx4a65c) (T := TJx4a65c) (N := 3) hx hb hts la_ws tyJx4a65c tyJx4a65c_ok nmJx4a65c hown T.1.1 hS hw1 rfl rfl 0 (by decide) (hts _ lz_fmod) (fun _ h9 => h9) rfl (by decide +kernel) rfl rfl (Nat.le_of_ble_eq_true rfl) dJxc12de_init_da8c8_6 (fun H2 locs2 hat z oq hS => ?_)
  exact W.vret hx hb hr (fun t ht hW => ⟨⟨(), rfl, trivial, by subst ht; exact hat⟩, hS.F ht⟩) hS.2.2 dJxc12de_init_da8c8_9
set_option maxHeartbeats 4000000 in
set_option maxRecDepth 100000 in
theorem c_arr (l : Launch) (E : mEnv) (S : mStr) {sz q0 : Nat} (hq0 : eN E ≤ q0) : Met l (qY qd_ar) (qWs qd_ar) (lR 3 0 0) (lP E S sz [.ref q0] (fun H => va_at (eD E) vwCl (q0, .inr (3, [.int 0, .null, .int 0])) H)) (va_Qv (fun _ : Unit => True) (fun _ t => va_at (eD E) vwCl (q0, .inr (3, [.int 0, .ref (eE E), .int 0])) t.heap) (fun q : Nat => q = q0)) 0 0 (fun q : Nat => q = q0) := by
  refine Met.ofW (cc := cJx4a65c_init_da8c8) (maxL := 1) (ret := none) (by decide) rfl ?_
  intro p e s m args below meth c s₁ B hml hv
  obtain ⟨rfl, T, hsz, hw⟩ := hv
  subst hsz
  have hx := B.exec
  have hb := B.bytes
  have hr := B.returns
  have hts := fun w hw => atoms_spec (ws := qWs qd_ar) B.pre w (List.mem_cons_of_mem _ hw)
  have hown : s.vm.findClass RJx4a65c = some m.cls := findClass_of_methodNamed B.named
  have hlocks := B.notSynchronized
  have X : lC E S p s m c cJx4a65c_init_da8c8 1 _ RJx4a65c := ⟨⟨hx, hb, hml, hown, hts⟩, T⟩
  have hS : va_S (fun q : Nat => q = q0) s.heap s.heap [] := va_S.rf
  have hl := lv_entry ([.ref q0]) (n := 1) (Nat.le_of_ble_eq_true rfl)
  rw [lg_entry_eq]
  generalize (lg_sl ([.ref q0]) ++ List.replicate (1 - (lg_sl ([.ref q0])).length) Slot.unset).toArray = ls at hl ⊢
  have hl : lv_has ls 1 [(0, .ref q0)] := hl
  have hB9 := T.2
  refine lv_aload_n hx hb eJx4a65c_init_da8c8_0 rfl (lv_at hl 0 rfl) ?_
  refine va_callv (lc_I (n := 0) (q := qd_al) (As := []) (rest := []) X ⟨lz_c_al, lz_n_al, lz_m_al⟩ rfl rfl (by decide) ⟨by decide, by decide⟩ (by decide +kernel) lz_l_al (c_alist (q0 := q0) l E S) lP.blind (fun U hU hW => ⟨rfl, T.warm hB9 hU hW, by rw [hU], by rw [hU]; exact hw⟩) rfl hl.1 rfl (Nat.le_of_ble_eq_true rfl) (Nat.le_of_ble_eq_true rfl) (Nat.le_of_ble_eq_true rfl) ⟨Nat.le_of_ble_eq_true rfl, Nat.le_of_ble_eq_true rfl⟩ eJx4a65c_init_da8c8_1) hS (fun q _ h => h) (fun q h => h) (fun u t H1 locs1 ht hvm hpv hB hz hk1 hS => ?_)
  rw [ht] at hB
  refine lv_aload_n hx hb eJx4a65c_init_da8c8_4 rfl (lv_at hl 0 rfl) ?_
  have hZ := (T.1.2.2.2.2.2.2.1.1.kept (H1 := s.heap) (fun a ha hn => T.2.2 a (by have := T.1.2.2.2.2.1; omega))).narrow (B := fun q : Nat => q = q0) (fun q h => by rw [h]; exact hq0)
  refine va_gets hx hb hZ hS hown (hts _ la_f39) (fun _ h9 => h9) eJx4a65c_init_da8c8_5 ?_
  refine mw_put (D := eD E) (ci := 3) (v := .ref (eE E)) (ty := .array (.object "java/lang/Object")) (C := RJx4a65c) (T := TJx4a65c) (N := 3) hx hb hts la_ws tyJx4a65c tyJx4a65c_ok nmJx4a65c hown T.1.1 hS hB rfl rfl 1 (by decide) (hts _ la_f9) (fun _ h9 => h9) rfl (by decide +kernel) rfl rfl (Nat.le_of_ble_eq_true rfl) eJx4a65c_init_da8c8_8 (fun H2 locs2 hat z oq hS => ?_)
  exact W.vret hx hb hr (fun t ht hW => ⟨⟨(), rfl, trivial, by subst ht; exact hat⟩, hS.F ht⟩) hS.2.2 eJx4a65c_init_da8c8_11
/-- one cell is another now, the others are as they were -/
theorem one_new {D : va_G} {A : Nat → Prop} {ws : va_W} {H H1 : Heap} {i d : Nat} {e0 e : va_E} (hP : va_P D vwCl ws H) (hD : va_D A ws) (hi : ws[i]? = some (d, e0)) (hat : va_at D vwCl (d, e) H1) (hk : ∀ q : Nat, q < H.size → ¬ q = d → H1[q]? = H[q]?) : va_P D vwCl (ws.set i (d, e)) H1 ∧ va_D A (ws.set i (d, e)) := by
  refine ⟨fun k q hq => ?_, hD.set hi⟩
  by_cases h : k = i
  · subst h
    have hlt := (List.getElem?_eq_some_iff.mp hi).1
    rw [List.getElem?_set_self hlt] at hq
    cases hq
    exact hat
  · rw [List.getElem?_set_ne (Ne.symm h)] at hq
    refine (hP k q hq).kept (hk _ (hP k q hq).lt (fun z => h ?_))
    exact hD.1 k i q (d, e0) hq hi z
set_option maxHeartbeats 4000000 in
set_option maxRecDepth 100000 in
theorem c_crew (l : Launch) (E : mEnv) (S : mStr) {sz q0 : Nat} (hq0 : eN E ≤ q0) : Met l (qY qd_c) (qWs qd_c) (lR 1 4 12) (lP E S sz [.ref q0] (fun H => va_at (eD E) vwCl (q0, .inr (4, [.int 0, .null, .null, .null, .null, .int 0])) H)) (va_Qv (fun _ : Nat × Nat × Nat × Nat => True) (fun u t => match u with | (c1, c2, c3, c4) => va_P (eD E) vwCl [(q0, .inr (4, [.int 0, .ref c1, .ref c2, .ref c3, .ref c4, .int 0])), (c1, .inl (eC E 0, 3, .inl (fun _ => 0))), (c2, .inl (eC E 0, 3, .inl (fun _ => 0))), (c3, .inl (eC E 0, 3, .inl (fun _ => 0))), (c4, .inl (eC E 0, 3, .inl (fun _ => 0)))] t.heap ∧ va_D (AC q0 sz) [(q0, .inr (4, [.int 0, .ref c1, .ref c2, .ref c3, .ref c4, .int 0])), (c1, .inl (eC E 0, 3, .inl (fun _ => 0))), (c2, .inl (eC E 0, 3, .inl (fun _ => 0))), (c3, .inl (eC E 0, 3, .inl (fun _ => 0))), (c4, .inl (eC E 0, 3, .inl (fun _ => 0)))]) (AC q0 sz)) 4 12 (AC q0 sz) := by
  refine Met.ofW (cc := cX0_init) (maxL := 1) (ret := none) (by decide) rfl ?_
  intro p e s m args below meth c s₁ B hml hv
  obtain ⟨rfl, T, hsz, hw⟩ := hv
  subst hsz
  have hx := B.exec
  have hb := B.bytes
  have hr := B.returns
  have hts := fun w hw => atoms_spec (ws := qWs qd_c) B.pre w (List.mem_cons_of_mem _ hw)
  have hown : s.vm.findClass RX0 = some m.cls := findClass_of_methodNamed B.named
  have hlocks := B.notSynchronized
  have X : lC E S p s m c cX0_init 1 _ RX0 := ⟨⟨hx, hb, hml, hown, hts⟩, T⟩
  have hS : va_S (AC q0 s.heap.size) s.heap s.heap [] := va_S.rf
  have hl := lv_entry ([.ref q0]) (n := 1) (Nat.le_of_ble_eq_true rfl)
  rw [lg_entry_eq]
  generalize (lg_sl ([.ref q0]) ++ List.replicate (1 - (lg_sl ([.ref q0])).length) Slot.unset).toArray = ls at hl ⊢
  have hl : lv_has ls 1 [(0, .ref q0)] := hl
  have hin : meth.name = "<init>" := (name_of_methodNamed B.named B.method).1
  have hA : ∀ q : Nat, s.heap.size ≤ q → AC q0 s.heap.size q := fun q h => Or.inr h
  have hFE : ∀ q, AC q0 s.heap.size q → eN E ≤ q := fun q h => h.elim (fun h => by rw [h]; exact hq0) (fun h => Nat.le_trans T.2.1 h)
  have hP : va_P (eD E) vwCl [(q0, .inr (4, [.int 0, .null, .null, .null, .null, .int 0]))] s.heap := one_P hw
  have hD : va_D (AC q0 s.heap.size) [(q0, .inr (4, [.int 0, .null, .null, .null, .null, .int 0]))] := one_D (Or.inl rfl)
  refine lv_aload_n hx hb dX0_init_0 rfl (lv_at hl 0 rfl) ?_
  refine W.objInit hx hb hown (hts _ lz_oX0) (hts _ lb_oi) (hts _ lb_oc) rfl (by rw [hml]; exact hl.1) rfl dX0_init_1 (Nat.le_of_ble_eq_true rfl) (Nat.le_of_ble_eq_true rfl) ?_
  refine W.eq (g2 := F0 m 4 ls []) rfl ?_
  refine lv_aload_n hx hb dX0_init_4 rfl (lv_at hl 0 rfl) ?_
  refine lv_iconst (v := 0) hx hb dX0_init_5 (by decide) ?_
  refine va_put (D := eD E) (ci := 4) (v := .int 0) (ty := .int) (C := RX0) (T := TX0) (N := 6) hx hb hts gw_X0 tyX0 tyX0_ok nmX0 hown T.1.1 hP hD hS 0 rfl rfl 0 (by decide) (hts _ lz_fX0_9) (fun _ h9 => h9) rfl (by decide +kernel) rfl rfl (Nat.le_of_ble_eq_true rfl) dX0_init_6 (fun H locs hP hD hS => ?_)
  have hP : va_P (eD E) vwCl [(q0, .inr (4, [.int 0, .null, .null, .null, .null, .int 0]))] H := hP
  have hD : va_D (AC q0 s.heap.size) [(q0, .inr (4, [.int 0, .null, .null, .null, .null, .int 0]))] := hD
  refine lv_aload_n hx hb dX0_init_9 rfl (lv_at hl 0 rfl) ?_
  refine lv_iconst (v := 3) hx hb dX0_init_10 (by decide) ?_
  refine va_newa (atype := .int) (ty := .int) (a0 := (3, .inl (fun _ => 0))) (N' := 3) hx hb (hts _ lb_ai) rfl T.1.1 hP hD hS hA (fun cA => rfl) (by decide) (by decide) (by decide) (Nat.le_of_ble_eq_true rfl) (Nat.le_of_ble_eq_true rfl) dX0_init_11 (fun c1 cA H hK1 hP hD hS => ?_)
  have e9 : cA = eC E 0 := lint_cls T (hK1.2 5 _ rfl).2
  subst e9
  have hP : va_P (eD E) vwCl [(q0, .inr (4, [.int 0, .null, .null, .null, .null, .int 0])), (c1, .inl (eC E 0, 3, .inl (fun _ => 0)))] H := hP
  have hD : va_D (AC q0 s.heap.size) [(q0, .inr (4, [.int 0, .null, .null, .null, .null, .int 0])), (c1, .inl (eC E 0, 3, .inl (fun _ => 0)))] := hD
  refine va_putF (D := eD E) (ci := 4) (v := .ref c1) (ty := .array .int) (C := RX0) (T := TX0) (N := 6) hx hb hts gw_X0 tyX0 tyX0_ok nmX0 hown T.1.1 hP hD hS 0 rfl rfl 1 (by decide) (hts _ lz_fX0_15) (fun _ h9 => h9) rfl hin rfl (by decide +kernel) rfl rfl (Nat.le_of_ble_eq_true rfl) dX0_init_13 (fun H locs hP hD hS => ?_)
  have hP : va_P (eD E) vwCl [(q0, .inr (4, [.int 0, .ref c1, .null, .null, .null, .int 0])), (c1, .inl (eC E 0, 3, .inl (fun _ => 0)))] H := hP
  have hD : va_D (AC q0 s.heap.size) [(q0, .inr (4, [.int 0, .ref c1, .null, .null, .null, .int 0])), (c1, .inl (eC E 0, 3, .inl (fun _ => 0)))] := hD
  refine lv_aload_n hx hb dX0_init_16 rfl (lv_at hl 0 rfl) ?_
  refine lv_iconst (v := 3) hx hb dX0_init_17 (by decide) ?_
  refine va_newa (atype := .int) (ty := .int) (a0 := (3, .inl (fun _ => 0))) (N' := 3) hx hb (hts _ lb_ai) rfl T.1.1 hP hD hS hA (fun cA => rfl) (by decide) (by decide) (by decide) (Nat.le_of_ble_eq_true rfl) (Nat.le_of_ble_eq_true rfl) dX0_init_18 (fun c2 cA H hK1 hP hD hS => ?_)
  have e9 : cA = eC E 0 := lint_cls T (hK1.2 5 _ rfl).2
  subst e9
  have hP : va_P (eD E) vwCl [(q0, .inr (4, [.int 0, .ref c1, .null, .null, .null, .int 0])), (c1, .inl (eC E 0, 3, .inl (fun _ => 0))), (c2, .inl (eC E 0, 3, .inl (fun _ => 0)))] H := hP
  have hD : va_D (AC q0 s.heap.size) [(q0, .inr (4, [.int 0, .ref c1, .null, .null, .null, .int 0])), (c1, .inl (eC E 0, 3, .inl (fun _ => 0))), (c2, .inl (eC E 0, 3, .inl (fun _ => 0)))] := hD
  refine va_putF (D := eD E) (ci := 4) (v := .ref c2) (ty := .array .int) (C := RX0) (T := TX0) (N := 6) hx hb hts gw_X0 tyX0 tyX0_ok nmX0 hown T.1.1 hP hD hS 0 rfl rfl 2 (by decide) (hts _ lz_fX0_19) (fun _ h9 => h9) rfl hin rfl (by decide +kernel) rfl rfl (Nat.le_of_ble_eq_true rfl) dX0_init_20 (fun H locs hP hD hS => ?_)
  have hP : va_P (eD E) vwCl [(q0, .inr (4, [.int 0, .ref c1, .ref c2, .null, .null, .int 0])), (c1, .inl (eC E 0, 3, .inl (fun _ => 0))), (c2, .inl (eC E 0, 3, .inl (fun _ => 0)))] H := hP
  have hD : va_D (AC q0 s.heap.size) [(q0, .inr (4, [.int 0, .ref c1, .ref c2, .null, .null, .int 0])), (c1, .inl (eC E 0, 3, .inl (fun _ => 0))), (c2, .inl (eC E 0, 3, .inl (fun _ => 0)))] := hD
  refine lv_aload_n hx hb dX0_init_23 rfl (lv_at hl 0 rfl) ?_
  refine lv_iconst (v := 3) hx hb dX0_init_24 (by decide) ?_
  refine va_newa (atype := .int) (ty := .int) (a0 := (3, .inl (fun _ => 0))) (N' := 3) hx hb (hts _ lb_ai) rfl T.1.1 hP hD hS hA (fun cA => rfl) (by decide) (by decide) (by decide) (Nat.le_of_ble_eq_true rfl) (Nat.le_of_ble_eq_true rfl) dX0_init_25 (fun c3 cA H hK1 hP hD hS => ?_)
  have e9 : cA = eC E 0 := lint_cls T (hK1.2 5 _ rfl).2
  subst e9
  have hP : va_P (eD E) vwCl [(q0, .inr (4, [.int 0, .ref c1, .ref c2, .null, .null, .int 0])), (c1, .inl (eC E 0, 3, .inl (fun _ => 0))), (c2, .inl (eC E 0, 3, .inl (fun _ => 0))), (c3, .inl (eC E 0, 3, .inl (fun _ => 0)))] H := hP
  have hD : va_D (AC q0 s.heap.size) [(q0, .inr (4, [.int 0, .ref c1, .ref c2, .null, .null, .int 0])), (c1, .inl (eC E 0, 3, .inl (fun _ => 0))), (c2, .inl (eC E 0, 3, .inl (fun _ => 0))), (c3, .inl (eC E 0, 3, .inl (fun _ => 0)))] := hD
  refine va_putF (D := eD E) (ci := 4) (v := .ref c3) (ty := .array .int) (C := RX0) (T := TX0) (N := 6) hx hb hts gw_X0 tyX0 tyX0_ok nmX0 hown T.1.1 hP hD hS 0 rfl rfl 3 (by decide) (hts _ lz_fX0_22) (fun _ h9 => h9) rfl hin rfl (by decide +kernel) rfl rfl (Nat.le_of_ble_eq_true rfl) dX0_init_27 (fun H locs hP hD hS => ?_)
  have hP : va_P (eD E) vwCl [(q0, .inr (4, [.int 0, .ref c1, .ref c2, .ref c3, .null, .int 0])), (c1, .inl (eC E 0, 3, .inl (fun _ => 0))), (c2, .inl (eC E 0, 3, .inl (fun _ => 0))), (c3, .inl (eC E 0, 3, .inl (fun _ => 0)))] H := hP
  have hD : va_D (AC q0 s.heap.size) [(q0, .inr (4, [.int 0, .ref c1, .ref c2, .ref c3, .null, .int 0])), (c1, .inl (eC E 0, 3, .inl (fun _ => 0))), (c2, .inl (eC E 0, 3, .inl (fun _ => 0))), (c3, .inl (eC E 0, 3, .inl (fun _ => 0)))] := hD
  refine lv_aload_n hx hb dX0_init_30 rfl (lv_at hl 0 rfl) ?_
  refine lv_iconst (v := 3) hx hb dX0_init_31 (by decide) ?_
  refine va_newa (atype := .int) (ty := .int) (a0 := (3, .inl (fun _ => 0))) (N' := 3) hx hb (hts _ lb_ai) rfl T.1.1 hP hD hS hA (fun cA => rfl) (by decide) (by decide) (by decide) (Nat.le_of_ble_eq_true rfl) (Nat.le_of_ble_eq_true rfl) dX0_init_32 (fun c4 cA H hK1 hP hD hS => ?_)
  have e9 : cA = eC E 0 := lint_cls T (hK1.2 5 _ rfl).2
  subst e9
  have hP : va_P (eD E) vwCl [(q0, .inr (4, [.int 0, .ref c1, .ref c2, .ref c3, .null, .int 0])), (c1, .inl (eC E 0, 3, .inl (fun _ => 0))), (c2, .inl (eC E 0, 3, .inl (fun _ => 0))), (c3, .inl (eC E 0, 3, .inl (fun _ => 0))), (c4, .inl (eC E 0, 3, .inl (fun _ => 0)))] H := hP
  have hD : va_D (AC q0 s.heap.size) [(q0, .inr (4, [.int 0, .ref c1, .ref c2, .ref c3, .null, .int 0])), (c1, .inl (eC E 0, 3, .inl (fun _ => 0))), (c2, .inl (eC E 0, 3, .inl (fun _ => 0))), (c3, .inl (eC E 0, 3, .inl (fun _ => 0))), (c4, .inl (eC E 0, 3, .inl (fun _ => 0)))] := hD
  refine va_putF (D := eD E) (ci := 4) (v := .ref c4) (ty := .array .int) (C := RX0) (T := TX0) (N := 6) hx hb hts gw_X0 tyX0 tyX0_ok nmX0 hown T.1.1 hP hD hS 0 rfl rfl 4 (by decide) (hts _ lz_fX0_25) (fun _ h9 => h9) rfl hin rfl (by decide +kernel) rfl rfl (Nat.le_of_ble_eq_true rfl) dX0_init_34 (fun H locs hP hD hS => ?_)
  have hP : va_P (eD E) vwCl [(q0, .inr (4, [.int 0, .ref c1, .ref c2, .ref c3, .ref c4, .int 0])), (c1, .inl (eC E 0, 3, .inl (fun _ => 0))), (c2, .inl (eC E 0, 3, .inl (fun _ => 0))), (c3, .inl (eC E 0, 3, .inl (fun _ => 0))), (c4, .inl (eC E 0, 3, .inl (fun _ => 0)))] H := hP
  have hD : va_D (AC q0 s.heap.size) [(q0, .inr (4, [.int 0, .ref c1, .ref c2, .ref c3, .ref c4, .int 0])), (c1, .inl (eC E 0, 3, .inl (fun _ => 0))), (c2, .inl (eC E 0, 3, .inl (fun _ => 0))), (c3, .inl (eC E 0, 3, .inl (fun _ => 0))), (c4, .inl (eC E 0, 3, .inl (fun _ => 0)))] := hD
  refine lv_aload_n hx hb dX0_init_37 rfl (lv_at hl 0 rfl) ?_
  refine lv_iconst (v := 0) hx hb dX0_init_38 (by decide) ?_
  refine va_put (D := eD E) (ci := 4) (v := .int 0) (ty := .int) (C := RX0) (T := TX0) (N := 6) hx hb hts gw_X0 tyX0 tyX0_ok nmX0 hown T.1.1 hP hD hS 0 rfl rfl 5 (by decide) (hts _ lz_fX0_28) (fun _ h9 => h9) rfl (by decide +kernel) rfl rfl (Nat.le_of_ble_eq_true rfl) dX0_init_39 (fun H locs hP hD hS => ?_)
  have hP : va_P (eD E) vwCl [(q0, .inr (4, [.int 0, .ref c1, .ref c2, .ref c3, .ref c4, .int 0])), (c1, .inl (eC E 0, 3, .inl (fun _ => 0))), (c2, .inl (eC E 0, 3, .inl (fun _ => 0))), (c3, .inl (eC E 0, 3, .inl (fun _ => 0))), (c4, .inl (eC E 0, 3, .inl (fun _ => 0)))] H := hP
  have hD : va_D (AC q0 s.heap.size) [(q0, .inr (4, [.int 0, .ref c1, .ref c2, .ref c3, .ref c4, .int 0])), (c1, .inl (eC E 0, 3, .inl (fun _ => 0))), (c2, .inl (eC E 0, 3, .inl (fun _ => 0))), (c3, .inl (eC E 0, 3, .inl (fun _ => 0))), (c4, .inl (eC E 0, 3, .inl (fun _ => 0)))] := hD
  refine W.widen (k := 4) (n := 12) (Nat.le_of_ble_eq_true rfl) (Nat.le_of_ble_eq_true rfl) ?_
  exact W.vret hx hb hr (fun t ht hW => ⟨⟨(c1, c2, c3, c4), rfl, trivial, by subst ht; exact ⟨hP, hD⟩⟩, hS.F ht⟩) hS.2.2 dX0_init_42
set_option maxHeartbeats 4000000 in
set_option maxRecDepth 100000 in
theorem c_ord (l : Launch) (E : mEnv) (S : mStr) {sz q0 : Nat} (hq0 : eN E ≤ q0) : Met l (qY qd_o) (qWs qd_o) (lR 4 3 11) (lP E S sz [.ref q0] (fun H => va_at (eD E) vwCl (q0, .inr (6, [.null, .null, .null, .int 0, .int 0])) H)) (va_Qv (fun _ : Nat × Nat × Nat => True) (fun u t => match u with | (l4, o1, o2) => va_P (eD E) vwCl [(q0, .inr (6, [.ref l4, .ref o1, .ref o2, .int 0, .int 0])), (l4, .inr (3, [.int 0, .ref (eE E), .int 0])), (o1, .inl (eC E 0, 4, .inl (fun _ => 0))), (o2, .inl (eC E 0, 4, .inl (fun _ => 0)))] t.heap ∧ va_D (AC q0 sz) [(q0, .inr (6, [.ref l4, .ref o1, .ref o2, .int 0, .int 0])), (l4, .inr (3, [.int 0, .ref (eE E), .int 0])), (o1, .inl (eC E 0, 4, .inl (fun _ => 0))), (o2, .inl (eC E 0, 4, .inl (fun _ => 0)))]) (AC q0 sz)) 3 11 (AC q0 sz) := by
  refine Met.ofW (cc := cX2_init) (maxL := 1) (ret := none) (by decide) rfl ?_
  intro p e s m args below meth c s₁ B hml hv
  obtain ⟨rfl, T, hsz, hw⟩ := hv
  subst hsz
  have hx := B.exec
  have hb := B.bytes
  have hr := B.returns
  have hts := fun w hw => atoms_spec (ws := qWs qd_o) B.pre w (List.mem_cons_of_mem _ hw)
  have hown : s.vm.findClass RX2 = some m.cls := findClass_of_methodNamed B.named
  have hlocks := B.notSynchronized
  have X : lC E S p s m c cX2_init 1 _ RX2 := ⟨⟨hx, hb, hml, hown, hts⟩, T⟩
  have hS : va_S (AC q0 s.heap.size) s.heap s.heap [] := va_S.rf
  have hl := lv_entry ([.ref q0]) (n := 1) (Nat.le_of_ble_eq_true rfl)
  rw [lg_entry_eq]
  generalize (lg_sl ([.ref q0]) ++ List.replicate (1 - (lg_sl ([.ref q0])).length) Slot.unset).toArray = ls at hl ⊢
  have hl : lv_has ls 1 [(0, .ref q0)] := hl
  have hin : meth.name = "<init>" := (name_of_methodNamed B.named B.method).1
  have hA : ∀ q : Nat, s.heap.size ≤ q → AC q0 s.heap.size q := fun q h => Or.inr h
  have hFE : ∀ q, AC q0 s.heap.size q → eN E ≤ q := fun q h => h.elim (fun h => by rw [h]; exact hq0) (fun h => Nat.le_trans T.2.1 h)
  have hP : va_P (eD E) vwCl [(q0, .inr (6, [.null, .null, .null, .int 0, .int 0]))] s.heap := one_P hw
  have hD : va_D (AC q0 s.heap.size) [(q0, .inr (6, [.null, .null, .null, .int 0, .int 0]))] := one_D (Or.inl rfl)
  refine lv_aload_n hx hb dX2_init_0 rfl (lv_at hl 0 rfl) ?_
  refine W.objInit hx hb hown (hts _ lz_oX2) (hts _ lb_oi) (hts _ lb_oc) rfl (by rw [hml]; exact hl.1) rfl dX2_init_1 (Nat.le_of_ble_eq_true rfl) (Nat.le_of_ble_eq_true rfl) ?_
  refine W.eq (g2 := F0 m 4 ls []) rfl ?_
  refine lv_aload_n hx hb dX2_init_4 rfl (lv_at hl 0 rfl) ?_
  refine va_new (ci := 3) (fs := [.int 0, .null, .int 0]) (C := RJx4a65c) (T := TJx4a65c) (N := 3) hx hb hts la_ws tyJx4a65c tyJx4a65c_ok hown (hts _ lz_k2_9) (hts _ lz_i_ar) (hts _ lz_n_ar) T.1.1 hP hD hS hA rfl (fun j hj => by rcases (show j = 0 ∨ j = 1 ∨ j = 2 by omega) with rfl | rfl | rfl <;> rfl) (Nat.le_of_ble_eq_true rfl) (Nat.le_of_ble_eq_true rfl) dX2_init_5 (fun l4 H hP hD hS => ?_)
  have hP : va_P (eD E) vwCl [(q0, .inr (6, [.null, .null, .null, .int 0, .int 0])), (l4, .inr (3, [.int 0, .null, .int 0]))] H := hP
  have hD : va_D (AC q0 s.heap.size) [(q0, .inr (6, [.null, .null, .null, .int 0, .int 0])), (l4, .inr (3, [.int 0, .null, .int 0]))] := hD
  refine lv_dup hx hb dX2_init_8 rfl ?_
  have hB9 := T.2.S hFE hS
  have hlo9 : eN E ≤ l4 := hFE _ (hD.2 1 _ rfl)
  refine va_callv (lc_I (n := 0) (q := qd_ar) (As := []) (rest := [.ref l4, .ref q0]) X ⟨lz_c_ar, lz_n_ar, lz_m_ar⟩ rfl rfl (by decide) ⟨by decide, by decide⟩ (by decide +kernel) lz_l2_11 (c_arr (q0 := l4) (sz := H.size) l E S hlo9) lP.blind (fun U hU hW => ⟨rfl, T.warm hB9 hU hW, by rw [hU], by rw [hU]; exact hP 1 _ rfl⟩) rfl hl.1 rfl (Nat.le_of_ble_eq_true rfl) (Nat.le_of_ble_eq_true rfl) (Nat.le_of_ble_eq_true rfl) ⟨Nat.le_of_ble_eq_true rfl, Nat.le_of_ble_eq_true rfl⟩ dX2_init_9) hS (fun q _ h => by rw [h]; exact hD.2 1 _ rfl) (fun q h => by rw [h]; exact hD.2 1 _ rfl) (fun u t H1 locs1 ht hvm hpv hB hz hk1 hS => ?_)
  rw [ht] at hB
  obtain ⟨hP, hD⟩ := one_new (i := 1) hP hD rfl hB hk1
  generalize H1 = H at hP hS ⊢
  have hP : va_P (eD E) vwCl [(q0, .inr (6, [.null, .null, .null, .int 0, .int 0])), (l4, .inr (3, [.int 0, .ref (eE E), .int 0]))] H := hP
  have hD : va_D (AC q0 s.heap.size) [(q0, .inr (6, [.null, .null, .null, .int 0, .int 0])), (l4, .inr (3, [.int 0, .ref (eE E), .int 0]))] := hD
  refine va_putF (D := eD E) (ci := 6) (v := .ref l4) (ty := .object "java/util/List") (C := RX2) (T := TX2) (N := 5) hx hb hts gw_X2 tyX2 tyX2_ok nmX2 hown T.1.1 hP hD hS 0 rfl rfl 0 (by decide) (hts _ lz_fX2_12) (fun _ h9 => h9) rfl hin rfl (by decide +kernel) rfl rfl (Nat.le_of_ble_eq_true rfl) dX2_init_12 (fun H locs hP hD hS => ?_)
  have hP : va_P (eD E) vwCl [(q0, .inr (6, [.ref l4, .null, .null, .int 0, .int 0])), (l4, .inr (3, [.int 0, .ref (eE E), .int 0]))] H := hP
  have hD : va_D (AC q0 s.heap.size) [(q0, .inr (6, [.ref l4, .null, .null, .int 0, .int 0])), (l4, .inr (3, [.int 0, .ref (eE E), .int 0]))] := hD
  refine lv_aload_n hx hb dX2_init_15 rfl (lv_at hl 0 rfl) ?_
  refine lv_iconst (v := 4) hx hb dX2_init_16 (by decide) ?_
  refine va_newa (atype := .int) (ty := .int) (a0 := (4, .inl (fun _ => 0))) (N' := 4) hx hb (hts _ lb_ai) rfl T.1.1 hP hD hS hA (fun cA => rfl) (by decide) (by decide) (by decide) (Nat.le_of_ble_eq_true rfl) (Nat.le_of_ble_eq_true rfl) dX2_init_17 (fun o1 cA H hK1 hP hD hS => ?_)
  have e9 : cA = eC E 0 := lint_cls T (hK1.2 5 _ rfl).2
  subst e9
  have hP : va_P (eD E) vwCl [(q0, .inr (6, [.ref l4, .null, .null, .int 0, .int 0])), (l4, .inr (3, [.int 0, .ref (eE E), .int 0])), (o1, .inl (eC E 0, 4, .inl (fun _ => 0)))] H := hP
  have hD : va_D (AC q0 s.heap.size) [(q0, .inr (6, [.ref l4, .null, .null, .int 0, .int 0])), (l4, .inr (3, [.int 0, .ref (eE E), .int 0])), (o1, .inl (eC E 0, 4, .inl (fun _ => 0)))] := hD
  refine va_putF (D := eD E) (ci := 6) (v := .ref o1) (ty := .array .int) (C := RX2) (T := TX2) (N := 5) hx hb hts gw_X2 tyX2 tyX2_ok nmX2 hown T.1.1 hP hD hS 0 rfl rfl 1 (by decide) (hts _ lz_fX2_18) (fun _ h9 => h9) rfl hin rfl (by decide +kernel) rfl rfl (Nat.le_of_ble_eq_true rfl) dX2_init_19 (fun H locs hP hD hS => ?_)
  have hP : va_P (eD E) vwCl [(q0, .inr (6, [.ref l4, .ref o1, .null, .int 0, .int 0])), (l4, .inr (3, [.int 0, .ref (eE E), .int 0])), (o1, .inl (eC E 0, 4, .inl (fun _ => 0)))] H := hP
  have hD : va_D (AC q0 s.heap.size) [(q0, .inr (6, [.ref l4, .ref o1, .null, .int 0, .int 0])), (l4, .inr (3, [.int 0, .ref (eE E), .int 0])), (o1, .inl (eC E 0, 4, .inl (fun _ => 0)))] := hD
  refine lv_aload_n hx hb dX2_init_22 rfl (lv_at hl 0 rfl) ?_
  refine lv_iconst (v := 4) hx hb dX2_init_23 (by decide) ?_
  refine va_newa (atype := .int) (ty := .int) (a0 := (4, .inl (fun _ => 0))) (N' := 4) hx hb (hts _ lb_ai) rfl T.1.1 hP hD hS hA (fun cA => rfl) (by decide) (by decide) (by decide) (Nat.le_of_ble_eq_true rfl) (Nat.le_of_ble_eq_true rfl) dX2_init_24 (fun o2 cA H hK1 hP hD hS => ?_)
  have e9 : cA = eC E 0 := lint_cls T (hK1.2 5 _ rfl).2
  subst e9
  have hP : va_P (eD E) vwCl [(q0, .inr (6, [.ref l4, .ref o1, .null, .int 0, .int 0])), (l4, .inr (3, [.int 0, .ref (eE E), .int 0])), (o1, .inl (eC E 0, 4, .inl (fun _ => 0))), (o2, .inl (eC E 0, 4, .inl (fun _ => 0)))] H := hP
  have hD : va_D (AC q0 s.heap.size) [(q0, .inr (6, [.ref l4, .ref o1, .null, .int 0, .int 0])), (l4, .inr (3, [.int 0, .ref (eE E), .int 0])), (o1, .inl (eC E 0, 4, .inl (fun _ => 0))), (o2, .inl (eC E 0, 4, .inl (fun _ => 0)))] := hD
  refine va_putF (D := eD E) (ci := 6) (v := .ref o2) (ty := .array .int) (C := RX2) (T := TX2) (N := 5) hx hb hts gw_X2 tyX2 tyX2_ok nmX2 hown T.1.1 hP hD hS 0 rfl rfl 2 (by decide) (hts _ lz_fX2_22) (fun _ h9 => h9) rfl hin rfl (by decide +kernel) rfl rfl (Nat.le_of_ble_eq_true rfl) dX2_init_26 (fun H locs hP hD hS => ?_)
  have hP : va_P (eD E) vwCl [(q0, .inr (6, [.ref l4, .ref o1, .ref o2, .int 0, .int 0])), (l4, .inr (3, [.int 0, .ref (eE E), .int 0])), (o1, .inl (eC E 0, 4, .inl (fun _ => 0))), (o2, .inl (eC E 0, 4, .inl (fun _ => 0)))] H := hP
  have hD : va_D (AC q0 s.heap.size) [(q0, .inr (6, [.ref l4, .ref o1, .ref o2, .int 0, .int 0])), (l4, .inr (3, [.int 0, .ref (eE E), .int 0])), (o1, .inl (eC E 0, 4, .inl (fun _ => 0))), (o2, .inl (eC E 0, 4, .inl (fun _ => 0)))] := hD
  refine lv_aload_n hx hb dX2_init_29 rfl (lv_at hl 0 rfl) ?_
  refine lv_iconst (v := 0) hx hb dX2_init_30 (by decide) ?_
  refine va_put (D := eD E) (ci := 6) (v := .int 0) (ty := .int) (C := RX2) (T := TX2) (N := 5) hx hb hts gw_X2 tyX2 tyX2_ok nmX2 hown T.1.1 hP hD hS 0 rfl rfl 3 (by decide) (hts _ lz_fX2_25) (fun _ h9 => h9) rfl (by decide +kernel) rfl rfl (Nat.le_of_ble_eq_true rfl) dX2_init_31 (fun H locs hP hD hS => ?_)
  have hP : va_P (eD E) vwCl [(q0, .inr (6, [.ref l4, .ref o1, .ref o2, .int 0, .int 0])), (l4, .inr (3, [.int 0, .ref (eE E), .int 0])), (o1, .inl (eC E 0, 4, .inl (fun _ => 0))), (o2, .inl (eC E 0, 4, .inl (fun _ => 0)))] H := hP
  have hD : va_D (AC q0 s.heap.size) [(q0, .inr (6, [.ref l4, .ref o1, .ref o2, .int 0, .int 0])), (l4, .inr (3, [.int 0, .ref (eE E), .int 0])), (o1, .inl (eC E 0, 4, .inl (fun _ => 0))), (o2, .inl (eC E 0, 4, .inl (fun _ => 0)))] := hD
  refine lv_aload_n hx hb dX2_init_34 rfl (lv_at hl 0 rfl) ?_
  refine lv_iconst (v := 0) hx hb dX2_init_35 (by decide) ?_
  refine va_put (D := eD E) (ci := 6) (v := .int 0) (ty := .int) (C := RX2) (T := TX2) (N := 5) hx hb hts gw_X2 tyX2 tyX2_ok nmX2 hown T.1.1 hP hD hS 0 rfl rfl 4 (by decide) (hts _ lz_fX2_29) (fun _ h9 => h9) rfl (by decide +kernel) rfl rfl (Nat.le_of_ble_eq_true rfl) dX2_init_36 (fun H locs hP hD hS => ?_)
  have hP : va_P (eD E) vwCl [(q0, .inr (6, [.ref l4, .ref o1, .ref o2, .int 0, .int 0])), (l4, .inr (3, [.int 0, .ref (eE E), .int 0])), (o1, .inl (eC E 0, 4, .inl (fun _ => 0))), (o2, .inl (eC E 0, 4, .inl (fun _ => 0)))] H := hP
  have hD : va_D (AC q0 s.heap.size) [(q0, .inr (6, [.ref l4, .ref o1, .ref o2, .int 0, .int 0])), (l4, .inr (3, [.int 0, .ref (eE E), .int 0])), (o1, .inl (eC E 0, 4, .inl (fun _ => 0))), (o2, .inl (eC E 0, 4, .inl (fun _ => 0)))] := hD
  refine W.widen (k := 3) (n := 11) (Nat.le_of_ble_eq_true rfl) (Nat.le_of_ble_eq_true rfl) ?_
  exact W.vret hx hb hr (fun t ht hW => ⟨⟨(l4, o1, o2), rfl, trivial, by subst ht; exact ⟨hP, hD⟩⟩, hS.F ht⟩) hS.2.2 dX2_init_39
set_option maxHeartbeats 4000000 in
set_option maxRecDepth 100000 in
theorem c_ferr (l : Launch) (E : mEnv) (S : mStr) {sz q0 : Nat} (hq0 : eN E ≤ q0) : Met l (qY qd_f) (qWs qd_f) (lR 5 12 43) (lP E S sz [.ref q0] (fun H => va_at (eD E) vwCl (q0, .inr (10, [.null, .null, .null, .null, .null, .int 0, .int 0, .int 0])) H)) (va_Qv (fun _ : Nat × Nat × Nat × Nat × Nat × Nat × Nat × Nat × Nat × Nat × Nat × Nat => True) (fun u t => match u with | (l1, l2, l3, qC, c1, c2, c3, c4, qO, l4, o1, o2) => va_P (eD E) vwCl [(q0, .inr (10, [.ref l1, .ref l2, .ref l3, .ref qC, .ref qO, .int 0, .int 14, .int 72])), (l1, .inr (3, [.int 0, .ref (eE E), .int 0])), (l2, .inr (3, [.int 0, .ref (eE E), .int 0])), (l3, .inr (3, [.int 0, .ref (eE E), .int 0])), (qC, .inr (4, [.int 0, .ref c1, .ref c2, .ref c3, .ref c4, .int 0])), (c1, .inl (eC E 0, 3, .inl (fun _ => 0))), (c2, .inl (eC E 0, 3, .inl (fun _ => 0))), (c3, .inl (eC E 0, 3, .inl (fun _ => 0))), (c4, .inl (eC E 0, 3, .inl (fun _ => 0))), (qO, .inr (6, [.ref l4, .ref o1, .ref o2, .int 0, .int 0])), (l4, .inr (3, [.int 0, .ref (eE E), .int 0])), (o1, .inl (eC E 0, 4, .inl (fun _ => 0))), (o2, .inl (eC E 0, 4, .inl (fun _ => 0)))] t.heap ∧ va_D (AC q0 sz) [(q0, .inr (10, [.ref l1, .ref l2, .ref l3, .ref qC, .ref qO, .int 0, .int 14, .int 72])), (l1, .inr (3, [.int 0, .ref (eE E), .int 0])), (l2, .inr (3, [.int 0, .ref (eE E), .int 0])), (l3, .inr (3, [.int 0, .ref (eE E), .int 0])), (qC, .inr (4, [.int 0, .ref c1, .ref c2, .ref c3, .ref c4, .int 0])), (c1, .inl (eC E 0, 3, .inl (fun _ => 0))), (c2, .inl (eC E 0, 3, .inl (fun _ => 0))), (c3, .inl (eC E 0, 3, .inl (fun _ => 0))), (c4, .inl (eC E 0, 3, .inl (fun _ => 0))), (qO, .inr (6, [.ref l4, .ref o1, .ref o2, .int 0, .int 0])), (l4, .inr (3, [.int 0, .ref (eE E), .int 0])), (o1, .inl (eC E 0, 4, .inl (fun _ => 0))), (o2, .inl (eC E 0, 4, .inl (fun _ => 0)))]) (AC q0 sz)) 12 43 (AC q0 sz) := by
  refine Met.ofW (cc := cX6_init) (maxL := 1) (ret := none) (by decide) rfl ?_
  intro p e s m args below meth c s₁ B hml hv
  obtain ⟨rfl, T, hsz, hw⟩ := hv
  subst hsz
  have hx := B.exec
  have hb := B.bytes
  have hr := B.returns
  have hts := fun w hw => atoms_spec (ws := qWs qd_f) B.pre w (List.mem_cons_of_mem _ hw)
  have hown : s.vm.findClass RX6 = some m.cls := findClass_of_methodNamed B.named
  have hlocks := B.notSynchronized
  have X : lC E S p s m c cX6_init 1 _ RX6 := ⟨⟨hx, hb, hml, hown, hts⟩, T⟩
  have hS : va_S (AC q0 s.heap.size) s.heap s.heap [] := va_S.rf
  have hl := lv_entry ([.ref q0]) (n := 1) (Nat.le_of_ble_eq_true rfl)
  rw [lg_entry_eq]
  generalize (lg_sl ([.ref q0]) ++ List.replicate (1 - (lg_sl ([.ref q0])).length) Slot.unset).toArray = ls at hl ⊢
  have hl : lv_has ls 1 [(0, .ref q0)] := hl
  have hin : meth.name = "<init>" := (name_of_methodNamed B.named B.method).1
  have hA : ∀ q : Nat, s.heap.size ≤ q → AC q0 s.heap.size q := fun q h => Or.inr h
  have hFE : ∀ q, AC q0 s.heap.size q → eN E ≤ q := fun q h => h.elim (fun h => by rw [h]; exact hq0) (fun h => Nat.le_trans T.2.1 h)
  have hP : va_P (eD E) vwCl [(q0, .inr (10, [.null, .null, .null, .null, .null, .int 0, .int 0, .int 0]))] s.heap := one_P hw
  have hD : va_D (AC q0 s.heap.size) [(q0, .inr (10, [.null, .null, .null, .null, .null, .int 0, .int 0, .int 0]))] := one_D (Or.inl rfl)
  refine lv_aload_n hx hb dX6_init_0 rfl (lv_at hl 0 rfl) ?_
  refine W.objInit hx hb hown (hts _ lz_oX6) (hts _ lb_oi) (hts _ lb_oc) rfl (by rw [hml]; exact hl.1) rfl dX6_init_1 (Nat.le_of_ble_eq_true rfl) (Nat.le_of_ble_eq_true rfl) ?_
  refine W.eq (g2 := F0 m 4 ls []) rfl ?_
  refine lv_aload_n hx hb dX6_init_4 rfl (lv_at hl 0 rfl) ?_
  refine va_new (ci := 3) (fs := [.int 0, .null, .int 0]) (C := RJx4a65c) (T := TJx4a65c) (N := 3) hx hb hts la_ws tyJx4a65c tyJx4a65c_ok hown (hts _ lz_k6_7) (hts _ lz_i_ar) (hts _ lz_n_ar) T.1.1 hP hD hS hA rfl (fun j hj => by rcases (show j = 0 ∨ j = 1 ∨ j = 2 by omega) with rfl | rfl | rfl <;> rfl) (Nat.le_of_ble_eq_true rfl) (Nat.le_of_ble_eq_true rfl) dX6_init_5 (fun l1 H hP hD hS => ?_)
  have hP : va_P (eD E) vwCl [(q0, .inr (10, [.null, .null, .null, .null, .null, .int 0, .int 0, .int 0])), (l1, .inr (3, [.int 0, .null, .int 0]))] H := hP
  have hD : va_D (AC q0 s.heap.size) [(q0, .inr (10, [.null, .null, .null, .null, .null, .int 0, .int 0, .int 0])), (l1, .inr (3, [.int 0, .null, .int 0]))] := hD
  refine lv_dup hx hb dX6_init_8 rfl ?_
  have hB9 := T.2.S hFE hS
  have hlo9 : eN E ≤ l1 := hFE _ (hD.2 1 _ rfl)
  refine va_callv (lc_I (n := 0) (q := qd_ar) (As := []) (rest := [.ref l1, .ref q0]) X ⟨lz_c_ar, lz_n_ar, lz_m_ar⟩ rfl rfl (by decide) ⟨by decide, by decide⟩ (by decide +kernel) lz_l6_9 (c_arr (q0 := l1) (sz := H.size) l E S hlo9) lP.blind (fun U hU hW => ⟨rfl, T.warm hB9 hU hW, by rw [hU], by rw [hU]; exact hP 1 _ rfl⟩) rfl hl.1 rfl (Nat.le_of_ble_eq_true rfl) (Nat.le_of_ble_eq_true rfl) (Nat.le_of_ble_eq_true rfl) ⟨Nat.le_of_ble_eq_true rfl, Nat.le_of_ble_eq_true rfl⟩ dX6_init_9) hS (fun q _ h => by rw [h]; exact hD.2 1 _ rfl) (fun q h => by rw [h]; exact hD.2 1 _ rfl) (fun u t H1 locs1 ht hvm hpv hB hz hk1 hS => ?_)
  rw [ht] at hB
  obtain ⟨hP, hD⟩ := one_new (i := 1) hP hD rfl hB hk1
  generalize H1 = H at hP hS ⊢
  have hP : va_P (eD E) vwCl [(q0, .inr (10, [.null, .null, .null, .null, .null, .int 0, .int 0, .int 0])), (l1, .inr (3, [.int 0, .ref (eE E), .int 0]))] H := hP
  have hD : va_D (AC q0 s.heap.size) [(q0, .inr (10, [.null, .null, .null, .null, .null, .int 0, .int 0, .int 0])), (l1, .inr (3, [.int 0, .ref (eE E), .int 0]))] := hD
  refine va_putF (D := eD E) (ci := 10) (v := .ref l1) (ty := .object "java/util/List") (C := RX6) (T := TX6) (N := 8) hx hb hts gw_X6 tyX6 tyX6_ok nmX6 hown T.1.1 hP hD hS 0 rfl rfl 0 (by decide) (hts _ lz_fX6_10) (fun _ h9 => h9) rfl hin rfl (by decide +kernel) rfl rfl (Nat.le_of_ble_eq_true rfl) dX6_init_12 (fun H locs hP hD hS => ?_)
  have hP : va_P (eD E) vwCl [(q0, .inr (10, [.ref l1, .null, .null, .null, .null, .int 0, .int 0, .int 0])), (l1, .inr (3, [.int 0, .ref (eE E), .int 0]))] H := hP
  have hD : va_D (AC q0 s.heap.size) [(q0, .inr (10, [.ref l1, .null, .null, .null, .null, .int 0, .int 0, .int 0])), (l1, .inr (3, [.int 0, .ref (eE E), .int 0]))] := hD
  refine lv_aload_n hx hb dX6_init_15 rfl (lv_at hl 0 rfl) ?_
  refine va_new (ci := 3) (fs := [.int 0, .null, .int 0]) (C := RJx4a65c) (T := TJx4a65c) (N := 3) hx hb hts la_ws tyJx4a65c tyJx4a65c_ok hown (hts _ lz_k6_7) (hts _ lz_i_ar) (hts _ lz_n_ar) T.1.1 hP hD hS hA rfl (fun j hj => by rcases (show j = 0 ∨ j = 1 ∨ j = 2 by omega) with rfl | rfl | rfl <;> rfl) (Nat.le_of_ble_eq_true rfl) (Nat.le_of_ble_eq_true rfl) dX6_init_16 (fun l2 H hP hD hS => ?_)
  have hP : va_P (eD E) vwCl [(q0, .inr (10, [.ref l1, .null, .null, .null, .null, .int 0, .int 0, .int 0])), (l1, .inr (3, [.int 0, .ref (eE E), .int 0])), (l2, .inr (3, [.int 0, .null, .int 0]))] H := hP
  have hD : va_D (AC q0 s.heap.size) [(q0, .inr (10, [.ref l1, .null, .null, .null, .null, .int 0, .int 0, .int 0])), (l1, .inr (3, [.int 0, .ref (eE E), .int 0])), (l2, .inr (3, [.int 0, .null, .int 0]))] := hD
  refine lv_dup hx hb dX6_init_19 rfl ?_
  have hB9 := T.2.S hFE hS
  have hlo9 : eN E ≤ l2 := hFE _ (hD.2 2 _ rfl)
  refine va_callv (lc_I (n := 0) (q := qd_ar) (As := []) (rest := [.ref l2, .ref q0]) X ⟨lz_c_ar, lz_n_ar, lz_m_ar⟩ rfl rfl (by decide) ⟨by decide, by decide⟩ (by decide +kernel) lz_l6_9 (c_arr (q0 := l2) (sz := H.size) l E S hlo9) lP.blind (fun U hU hW => ⟨rfl, T.warm hB9 hU hW, by rw [hU], by rw [hU]; exact hP 2 _ rfl⟩) rfl hl.1 rfl (Nat.le_of_ble_eq_true rfl) (Nat.le_of_ble_eq_true rfl) (Nat.le_of_ble_eq_true rfl) ⟨Nat.le_of_ble_eq_true rfl, Nat.le_of_ble_eq_true rfl⟩ dX6_init_20) hS (fun q _ h => by rw [h]; exact hD.2 2 _ rfl) (fun q h => by rw [h]; exact hD.2 2 _ rfl) (fun u t H1 locs1 ht hvm hpv hB hz hk1 hS => ?_)
  rw [ht] at hB
  obtain ⟨hP, hD⟩ := one_new (i := 2) hP hD rfl hB hk1
  generalize H1 = H at hP hS ⊢
  have hP : va_P (eD E) vwCl [(q0, .inr (10, [.ref l1, .null, .null, .null, .null, .int 0, .int 0, .int 0])), (l1, .inr (3, [.int 0, .ref (eE E), .int 0])), (l2, .inr (3, [.int 0, .ref (eE E), .int 0]))] H := hP
  have hD : va_D (AC q0 s.heap.size) [(q0, .inr (10, [.ref l1, .null, .null, .null, .null, .int 0, .int 0, .int 0])), (l1, .inr (3, [.int 0, .ref (eE E), .int 0])), (l2, .inr (3, [.int 0, .ref (eE E), .int 0]))] := hD
  refine va_putF (D := eD E) (ci := 10) (v := .ref l2) (ty := .object "java/util/List") (C := RX6) (T := TX6) (N := 8) hx hb hts gw_X6 tyX6 tyX6_ok nmX6 hown T.1.1 hP hD hS 0 rfl rfl 1 (by decide) (hts _ lz_fX6_16) (fun _ h9 => h9) rfl hin rfl (by decide +kernel) rfl rfl (Nat.le_of_ble_eq_true rfl) dX6_init_23 (fun H locs hP hD hS => ?_)
  have hP : va_P (eD E) vwCl [(q0, .inr (10, [.ref l1, .ref l2, .null, .null, .null, .int 0, .int 0, .int 0])), (l1, .inr (3, [.int 0, .ref (eE E), .int 0])), (l2, .inr (3, [.int 0, .ref (eE E), .int 0]))] H := hP
  have hD : va_D (AC q0 s.heap.size) [(q0, .inr (10, [.ref l1, .ref l2, .null, .null, .null, .int 0, .int 0, .int 0])), (l1, .inr (3, [.int 0, .ref (eE E), .int 0])), (l2, .inr (3, [.int 0, .ref (eE E), .int 0]))] := hD
  refine lv_aload_n hx hb dX6_init_26 rfl (lv_at hl 0 rfl) ?_
  refine va_new (ci := 3) (fs := [.int 0, .null, .int 0]) (C := RJx4a65c) (T := TJx4a65c) (N := 3) hx hb hts la_ws tyJx4a65c tyJx4a65c_ok hown (hts _ lz_k6_7) (hts _ lz_i_ar) (hts _ lz_n_ar) T.1.1 hP hD hS hA rfl (fun j hj => by rcases (show j = 0 ∨ j = 1 ∨ j = 2 by omega) with rfl | rfl | rfl <;> rfl) (Nat.le_of_ble_eq_true rfl) (Nat.le_of_ble_eq_true rfl) dX6_init_27 (fun l3 H hP hD hS => ?_)
  have hP : va_P (eD E) vwCl [(q0, .inr (10, [.ref l1, .ref l2, .null, .null, .null, .int 0, .int 0, .int 0])), (l1, .inr (3, [.int 0, .ref (eE E), .int 0])), (l2, .inr (3, [.int 0, .ref (eE E), .int 0])), (l3, .inr (3, [.int 0, .null, .int 0]))] H := hP
  have hD : va_D (AC q0 s.heap.size) [(q0, .inr (10, [.ref l1, .ref l2, .null, .null, .null, .int 0, .int 0, .int 0])), (l1, .inr (3, [.int 0, .ref (eE E), .int 0])), (l2, .inr (3, [.int 0, .ref (eE E), .int 0])), (l3, .inr (3, [.int 0, .null, .int 0]))] := hD
  refine lv_dup hx hb dX6_init_30 rfl ?_
  have hB9 := T.2.S hFE hS
  have hlo9 : eN E ≤ l3 := hFE _ (hD.2 3 _ rfl)
  refine va_callv (lc_I (n := 0) (q := qd_ar) (As := []) (rest := [.ref l3, .ref q0]) X ⟨lz_c_ar, lz_n_ar, lz_m_ar⟩ rfl rfl (by decide) ⟨by decide, by decide⟩ (by decide +kernel) lz_l6_9 (c_arr (q0 := l3) (sz := H.size) l E S hlo9) lP.blind (fun U hU hW => ⟨rfl, T.warm hB9 hU hW, by rw [hU], by rw [hU]; exact hP 3 _ rfl⟩) rfl hl.1 rfl (Nat.le_of_ble_eq_true rfl) (Nat.le_of_ble_eq_true rfl) (Nat.le_of_ble_eq_true rfl) ⟨Nat.le_of_ble_eq_true rfl, Nat.le_of_ble_eq_true rfl⟩ dX6_init_31) hS (fun q _ h => by rw [h]; exact hD.2 3 _ rfl) (fun q h => by rw [h]; exact hD.2 3 _ rfl) (fun u t H1 locs1 ht hvm hpv hB hz hk1 hS => ?_)
  rw [ht] at hB
  obtain ⟨hP, hD⟩ := one_new (i := 3) hP hD rfl hB hk1
  generalize H1 = H at hP hS ⊢
  have hP : va_P (eD E) vwCl [(q0, .inr (10, [.ref l1, .ref l2, .null, .null, .null, .int 0, .int 0, .int 0])), (l1, .inr (3, [.int 0, .ref (eE E), .int 0])), (l2, .inr (3, [.int 0, .ref (eE E), .int 0])), (l3, .inr (3, [.int 0, .ref (eE E), .int 0]))] H := hP
  have hD : va_D (AC q0 s.heap.size) [(q0, .inr (10, [.ref l1, .ref l2, .null, .null, .null, .int 0, .int 0, .int 0])), (l1, .inr (3, [.int 0, .ref (eE E), .int 0])), (l2, .inr (3, [.int 0, .ref (eE E), .int 0])), (l3, .inr (3, [.int 0, .ref (eE E), .int 0]))] := hD
  refine va_putF (D := eD E) (ci := 10) (v := .ref l3) (ty := .object "java/util/List") (C := RX6) (T := TX6) (N := 8) hx hb hts gw_X6 tyX6 tyX6_ok nmX6 hown T.1.1 hP hD hS 0 rfl rfl 2 (by decide) (hts _ lz_fX6_19) (fun _ h9 => h9) rfl hin rfl (by decide +kernel) rfl rfl (Nat.le_of_ble_eq_true rfl) dX6_init_34 (fun H locs hP hD hS => ?_)
  have hP : va_P (eD E) vwCl [(q0, .inr (10, [.ref l1, .ref l2, .ref l3, .null, .null, .int 0, .int 0, .int 0])), (l1, .inr (3, [.int 0, .ref (eE E), .int 0])), (l2, .inr (3, [.int 0, .ref (eE E), .int 0])), (l3, .inr (3, [.int 0, .ref (eE E), .int 0]))] H := hP
  have hD : va_D (AC q0 s.heap.size) [(q0, .inr (10, [.ref l1, .ref l2, .ref l3, .null, .null, .int 0, .int 0, .int 0])), (l1, .inr (3, [.int 0, .ref (eE E), .int 0])), (l2, .inr (3, [.int 0, .ref (eE E), .int 0])), (l3, .inr (3, [.int 0, .ref (eE E), .int 0]))] := hD
  refine lv_aload_n hx hb dX6_init_37 rfl (lv_at hl 0 rfl) ?_
  refine va_new (ci := 4) (fs := [.int 0, .null, .null, .null, .null, .int 0]) (C := RX0) (T := TX0) (N := 6) hx hb hts gw_X0 tyX0 tyX0_ok hown (hts _ lz_k6_22) (hts _ lz_i_c) (hts _ lz_n_c) T.1.1 hP hD hS hA rfl (fun j hj => by rcases (show j = 0 ∨ j = 1 ∨ j = 2 ∨ j = 3 ∨ j = 4 ∨ j = 5 by omega) with rfl | rfl | rfl | rfl | rfl | rfl <;> rfl) (Nat.le_of_ble_eq_true rfl) (Nat.le_of_ble_eq_true rfl) dX6_init_38 (fun qC H hP hD hS => ?_)
  have hP : va_P (eD E) vwCl [(q0, .inr (10, [.ref l1, .ref l2, .ref l3, .null, .null, .int 0, .int 0, .int 0])), (l1, .inr (3, [.int 0, .ref (eE E), .int 0])), (l2, .inr (3, [.int 0, .ref (eE E), .int 0])), (l3, .inr (3, [.int 0, .ref (eE E), .int 0])), (qC, .inr (4, [.int 0, .null, .null, .null, .null, .int 0]))] H := hP
  have hD : va_D (AC q0 s.heap.size) [(q0, .inr (10, [.ref l1, .ref l2, .ref l3, .null, .null, .int 0, .int 0, .int 0])), (l1, .inr (3, [.int 0, .ref (eE E), .int 0])), (l2, .inr (3, [.int 0, .ref (eE E), .int 0])), (l3, .inr (3, [.int 0, .ref (eE E), .int 0])), (qC, .inr (4, [.int 0, .null, .null, .null, .null, .int 0]))] := hD
  refine lv_dup hx hb dX6_init_41 rfl ?_
  have hB9 := T.2.S hFE hS
  have hlo9 : eN E ≤ qC := hFE _ (hD.2 4 _ rfl)
  have hFc := va_free (wc := [(qC, .inr (4, [.int 0, .null, .null, .null, .null, .int 0]))]) hD hS hA [4] rfl
  refine va_callv (va_runIN (As := []) (rest := [.ref qC, .ref q0]) X.1 (c_crew (q0 := qC) (sz := H.size) l E S hlo9) ⟨va_cnB 0 hts (qWs_good (q := qd_c) lz_c_c) rfl rfl rfl (T.1.2.2.2.2.2.1 _ lz_n6_24 rfl) (hts _ lz_n_c) ⟨by decide, by decide, by decide +kernel⟩ ⟨Nat.le_of_ble_eq_true rfl, Nat.le_of_ble_eq_true rfl⟩, rfl, hts _ lz_m_c⟩ ⟨lP.blind, fun U hU hW => ⟨rfl, T.warm hB9 hU hW, by rw [hU], by rw [hU]; exact hP 4 _ rfl⟩⟩ rfl rfl hl.1 rfl (lv_room (Nat.le_of_ble_eq_true rfl)) dX6_init_42 ⟨Nat.le_of_ble_eq_true rfl, Nat.le_of_ble_eq_true rfl⟩) hS (fun q _ h => hFc q (AC_A h)) (fun q h => hFc q (AC_A h)) (fun u t H1 locs1 ht hvm hw9 hB hz1 hk1 hS => ?_)
  obtain ⟨c1, c2, c3, c4⟩ := u
  obtain ⟨hP1, hD1⟩ := hB
  rw [ht] at hP1
  obtain ⟨hP, hD⟩ := va_join (wr := [(q0, .inr (10, [.ref l1, .ref l2, .ref l3, .null, .null, .int 0, .int 0, .int 0])), (l1, .inr (3, [.int 0, .ref (eE E), .int 0])), (l2, .inr (3, [.int 0, .ref (eE E), .int 0])), (l3, .inr (3, [.int 0, .ref (eE E), .int 0]))]) (w1 := [(qC, .inr (4, [.int 0, .ref c1, .ref c2, .ref c3, .ref c4, .int 0])), (c1, .inl (eC E 0, 3, .inl (fun _ => 0))), (c2, .inl (eC E 0, 3, .inl (fun _ => 0))), (c3, .inl (eC E 0, 3, .inl (fun _ => 0))), (c4, .inl (eC E 0, 3, .inl (fun _ => 0)))]) hP hD [4] [0, 1, 2, 3] rfl rfl (by decide) (by decide) (fun q h1 h2 => hk1 q h1 (fun z => h2 (AC_A z))) hFc hP1 (hD1.weaken (fun _ _ _ h => AC_A h))
  generalize H1 = H at hP hS ⊢
  have hP : va_P (eD E) vwCl [(q0, .inr (10, [.ref l1, .ref l2, .ref l3, .null, .null, .int 0, .int 0, .int 0])), (l1, .inr (3, [.int 0, .ref (eE E), .int 0])), (l2, .inr (3, [.int 0, .ref (eE E), .int 0])), (l3, .inr (3, [.int 0, .ref (eE E), .int 0])), (qC, .inr (4, [.int 0, .ref c1, .ref c2, .ref c3, .ref c4, .int 0])), (c1, .inl (eC E 0, 3, .inl (fun _ => 0))), (c2, .inl (eC E 0, 3, .inl (fun _ => 0))), (c3, .inl (eC E 0, 3, .inl (fun _ => 0))), (c4, .inl (eC E 0, 3, .inl (fun _ => 0)))] H := hP
  have hD : va_D (AC q0 s.heap.size) [(q0, .inr (10, [.ref l1, .ref l2, .ref l3, .null, .null, .int 0, .int 0, .int 0])), (l1, .inr (3, [.int 0, .ref (eE E), .int 0])), (l2, .inr (3, [.int 0, .ref (eE E), .int 0])), (l3, .inr (3, [.int 0, .ref (eE E), .int 0])), (qC, .inr (4, [.int 0, .ref c1, .ref c2, .ref c3, .ref c4, .int 0])), (c1, .inl (eC E 0, 3, .inl (fun _ => 0))), (c2, .inl (eC E 0, 3, .inl (fun _ => 0))), (c3, .inl (eC E 0, 3, .inl (fun _ => 0))), (c4, .inl (eC E 0, 3, .inl (fun _ => 0)))] := hD
  refine va_putF (D := eD E) (ci := 10) (v := .ref qC) (ty := .object "Ferryroster$CrewSearch") (C := RX6) (T := TX6) (N := 8) hx hb hts gw_X6 tyX6 tyX6_ok nmX6 hown T.1.1 hP hD hS 0 rfl rfl 3 (by decide) (hts _ lz_fX6_25) (fun _ h9 => h9) rfl hin rfl (by decide +kernel) rfl rfl (Nat.le_of_ble_eq_true rfl) dX6_init_45 (fun H locs hP hD hS => ?_)
  have hP : va_P (eD E) vwCl [(q0, .inr (10, [.ref l1, .ref l2, .ref l3, .ref qC, .null, .int 0, .int 0, .int 0])), (l1, .inr (3, [.int 0, .ref (eE E), .int 0])), (l2, .inr (3, [.int 0, .ref (eE E), .int 0])), (l3, .inr (3, [.int 0, .ref (eE E), .int 0])), (qC, .inr (4, [.int 0, .ref c1, .ref c2, .ref c3, .ref c4, .int 0])), (c1, .inl (eC E 0, 3, .inl (fun _ => 0))), (c2, .inl (eC E 0, 3, .inl (fun _ => 0))), (c3, .inl (eC E 0, 3, .inl (fun _ => 0))), (c4, .inl (eC E 0, 3, .inl (fun _ => 0)))] H := hP
  have hD : va_D (AC q0 s.heap.size) [(q0, .inr (10, [.ref l1, .ref l2, .ref l3, .ref qC, .null, .int 0, .int 0, .int 0])), (l1, .inr (3, [.int 0, .ref (eE E), .int 0])), (l2, .inr (3, [.int 0, .ref (eE E), .int 0])), (l3, .inr (3, [.int 0, .ref (eE E), .int 0])), (qC, .inr (4, [.int 0, .ref c1, .ref c2, .ref c3, .ref c4, .int 0])), (c1, .inl (eC E 0, 3, .inl (fun _ => 0))), (c2, .inl (eC E 0, 3, .inl (fun _ => 0))), (c3, .inl (eC E 0, 3, .inl (fun _ => 0))), (c4, .inl (eC E 0, 3, .inl (fun _ => 0)))] := hD
  refine lv_aload_n hx hb dX6_init_48 rfl (lv_at hl 0 rfl) ?_
  refine va_new (ci := 6) (fs := [.null, .null, .null, .int 0, .int 0]) (C := RX2) (T := TX2) (N := 5) hx hb hts gw_X2 tyX2 tyX2_ok hown (hts _ lz_k6_29) (hts _ lz_i_o) (hts _ lz_n_o) T.1.1 hP hD hS hA rfl (fun j hj => by rcases (show j = 0 ∨ j = 1 ∨ j = 2 ∨ j = 3 ∨ j = 4 by omega) with rfl | rfl | rfl | rfl | rfl <;> rfl) (Nat.le_of_ble_eq_true rfl) (Nat.le_of_ble_eq_true rfl) dX6_init_49 (fun qO H hP hD hS => ?_)
  have hP : va_P (eD E) vwCl [(q0, .inr (10, [.ref l1, .ref l2, .ref l3, .ref qC, .null, .int 0, .int 0, .int 0])), (l1, .inr (3, [.int 0, .ref (eE E), .int 0])), (l2, .inr (3, [.int 0, .ref (eE E), .int 0])), (l3, .inr (3, [.int 0, .ref (eE E), .int 0])), (qC, .inr (4, [.int 0, .ref c1, .ref c2, .ref c3, .ref c4, .int 0])), (c1, .inl (eC E 0, 3, .inl (fun _ => 0))), (c2, .inl (eC E 0, 3, .inl (fun _ => 0))), (c3, .inl (eC E 0, 3, .inl (fun _ => 0))), (c4, .inl (eC E 0, 3, .inl (fun _ => 0))), (qO, .inr (6, [.null, .null, .null, .int 0, .int 0]))] H := hP
  have hD : va_D (AC q0 s.heap.size) [(q0, .inr (10, [.ref l1, .ref l2, .ref l3, .ref qC, .null, .int 0, .int 0, .int 0])), (l1, .inr (3, [.int 0, .ref (eE E), .int 0])), (l2, .inr (3, [.int 0, .ref (eE E), .int 0])), (l3, .inr (3, [.int 0, .ref (eE E), .int 0])), (qC, .inr (4, [.int 0, .ref c1, .ref c2, .ref c3, .ref c4, .int 0])), (c1, .inl (eC E 0, 3, .inl (fun _ => 0))), (c2, .inl (eC E 0, 3, .inl (fun _ => 0))), (c3, .inl (eC E 0, 3, .inl (fun _ => 0))), (c4, .inl (eC E 0, 3, .inl (fun _ => 0))), (qO, .inr (6, [.null, .null, .null, .int 0, .int 0]))] := hD
  refine lv_dup hx hb dX6_init_52 rfl ?_
  have hB9 := T.2.S hFE hS
  have hlo9 : eN E ≤ qO := hFE _ (hD.2 9 _ rfl)
  have hFc := va_free (wc := [(qO, .inr (6, [.null, .null, .null, .int 0, .int 0]))]) hD hS hA [9] rfl
  refine va_callv (va_runIN (As := []) (rest := [.ref qO, .ref q0]) X.1 (c_ord (q0 := qO) (sz := H.size) l E S hlo9) ⟨va_cnB 0 hts (qWs_good (q := qd_o) lz_c_o) rfl rfl rfl (T.1.2.2.2.2.2.1 _ lz_n6_31 rfl) (hts _ lz_n_o) ⟨by decide, by decide, by decide +kernel⟩ ⟨Nat.le_of_ble_eq_true rfl, Nat.le_of_ble_eq_true rfl⟩, rfl, hts _ lz_m_o⟩ ⟨lP.blind, fun U hU hW => ⟨rfl, T.warm hB9 hU hW, by rw [hU], by rw [hU]; exact hP 9 _ rfl⟩⟩ rfl rfl hl.1 rfl (lv_room (Nat.le_of_ble_eq_true rfl)) dX6_init_53 ⟨Nat.le_of_ble_eq_true rfl, Nat.le_of_ble_eq_true rfl⟩) hS (fun q _ h => hFc q (AC_A h)) (fun q h => hFc q (AC_A h)) (fun u t H1 locs1 ht hvm hw9 hB hz1 hk1 hS => ?_)
  obtain ⟨l4, o1, o2⟩ := u
  obtain ⟨hP1, hD1⟩ := hB
  rw [ht] at hP1
  obtain ⟨hP, hD⟩ := va_join (wr := [(q0, .inr (10, [.ref l1, .ref l2, .ref l3, .ref qC, .null, .int 0, .int 0, .int 0])), (l1, .inr (3, [.int 0, .ref (eE E), .int 0])), (l2, .inr (3, [.int 0, .ref (eE E), .int 0])), (l3, .inr (3, [.int 0, .ref (eE E), .int 0])), (qC, .inr (4, [.int 0, .ref c1, .ref c2, .ref c3, .ref c4, .int 0])), (c1, .inl (eC E 0, 3, .inl (fun _ => 0))), (c2, .inl (eC E 0, 3, .inl (fun _ => 0))), (c3, .inl (eC E 0, 3, .inl (fun _ => 0))), (c4, .inl (eC E 0, 3, .inl (fun _ => 0)))]) (w1 := [(qO, .inr (6, [.ref l4, .ref o1, .ref o2, .int 0, .int 0])), (l4, .inr (3, [.int 0, .ref (eE E), .int 0])), (o1, .inl (eC E 0, 4, .inl (fun _ => 0))), (o2, .inl (eC E 0, 4, .inl (fun _ => 0)))]) hP hD [9] [0, 1, 2, 3, 4, 5, 6, 7, 8] rfl rfl (by decide) (by decide) (fun q h1 h2 => hk1 q h1 (fun z => h2 (AC_A z))) hFc hP1 (hD1.weaken (fun _ _ _ h => AC_A h))
  generalize H1 = H at hP hS ⊢
  have hP : va_P (eD E) vwCl [(q0, .inr (10, [.ref l1, .ref l2, .ref l3, .ref qC, .null, .int 0, .int 0, .int 0])), (l1, .inr (3, [.int 0, .ref (eE E), .int 0])), (l2, .inr (3, [.int 0, .ref (eE E), .int 0])), (l3, .inr (3, [.int 0, .ref (eE E), .int 0])), (qC, .inr (4, [.int 0, .ref c1, .ref c2, .ref c3, .ref c4, .int 0])), (c1, .inl (eC E 0, 3, .inl (fun _ => 0))), (c2, .inl (eC E 0, 3, .inl (fun _ => 0))), (c3, .inl (eC E 0, 3, .inl (fun _ => 0))), (c4, .inl (eC E 0, 3, .inl (fun _ => 0))), (qO, .inr (6, [.ref l4, .ref o1, .ref o2, .int 0, .int 0])), (l4, .inr (3, [.int 0, .ref (eE E), .int 0])), (o1, .inl (eC E 0, 4, .inl (fun _ => 0))), (o2, .inl (eC E 0, 4, .inl (fun _ => 0)))] H := hP
  have hD : va_D (AC q0 s.heap.size) [(q0, .inr (10, [.ref l1, .ref l2, .ref l3, .ref qC, .null, .int 0, .int 0, .int 0])), (l1, .inr (3, [.int 0, .ref (eE E), .int 0])), (l2, .inr (3, [.int 0, .ref (eE E), .int 0])), (l3, .inr (3, [.int 0, .ref (eE E), .int 0])), (qC, .inr (4, [.int 0, .ref c1, .ref c2, .ref c3, .ref c4, .int 0])), (c1, .inl (eC E 0, 3, .inl (fun _ => 0))), (c2, .inl (eC E 0, 3, .inl (fun _ => 0))), (c3, .inl (eC E 0, 3, .inl (fun _ => 0))), (c4, .inl (eC E 0, 3, .inl (fun _ => 0))), (qO, .inr (6, [.ref l4, .ref o1, .ref o2, .int 0, .int 0])), (l4, .inr (3, [.int 0, .ref (eE E), .int 0])), (o1, .inl (eC E 0, 4, .inl (fun _ => 0))), (o2, .inl (eC E 0, 4, .inl (fun _ => 0)))] := hD
  refine va_putF (D := eD E) (ci := 10) (v := .ref qO) (ty := .object "Ferryroster$OrderSearch") (C := RX6) (T := TX6) (N := 8) hx hb hts gw_X6 tyX6 tyX6_ok nmX6 hown T.1.1 hP hD hS 0 rfl rfl 4 (by decide) (hts _ lz_fX6_32) (fun _ h9 => h9) rfl hin rfl (by decide +kernel) rfl rfl (Nat.le_of_ble_eq_true rfl) dX6_init_56 (fun H locs hP hD hS => ?_)
  have hP : va_P (eD E) vwCl [(q0, .inr (10, [.ref l1, .ref l2, .ref l3, .ref qC, .ref qO, .int 0, .int 0, .int 0])), (l1, .inr (3, [.int 0, .ref (eE E), .int 0])), (l2, .inr (3, [.int 0, .ref (eE E), .int 0])), (l3, .inr (3, [.int 0, .ref (eE E), .int 0])), (qC, .inr (4, [.int 0, .ref c1, .ref c2, .ref c3, .ref c4, .int 0])), (c1, .inl (eC E 0, 3, .inl (fun _ => 0))), (c2, .inl (eC E 0, 3, .inl (fun _ => 0))), (c3, .inl (eC E 0, 3, .inl (fun _ => 0))), (c4, .inl (eC E 0, 3, .inl (fun _ => 0))), (qO, .inr (6, [.ref l4, .ref o1, .ref o2, .int 0, .int 0])), (l4, .inr (3, [.int 0, .ref (eE E), .int 0])), (o1, .inl (eC E 0, 4, .inl (fun _ => 0))), (o2, .inl (eC E 0, 4, .inl (fun _ => 0)))] H := hP
  have hD : va_D (AC q0 s.heap.size) [(q0, .inr (10, [.ref l1, .ref l2, .ref l3, .ref qC, .ref qO, .int 0, .int 0, .int 0])), (l1, .inr (3, [.int 0, .ref (eE E), .int 0])), (l2, .inr (3, [.int 0, .ref (eE E), .int 0])), (l3, .inr (3, [.int 0, .ref (eE E), .int 0])), (qC, .inr (4, [.int 0, .ref c1, .ref c2, .ref c3, .ref c4, .int 0])), (c1, .inl (eC E 0, 3, .inl (fun _ => 0))), (c2, .inl (eC E 0, 3, .inl (fun _ => 0))), (c3, .inl (eC E 0, 3, .inl (fun _ => 0))), (c4, .inl (eC E 0, 3, .inl (fun _ => 0))), (qO, .inr (6, [.ref l4, .ref o1, .ref o2, .int 0, .int 0])), (l4, .inr (3, [.int 0, .ref (eE E), .int 0])), (o1, .inl (eC E 0, 4, .inl (fun _ => 0))), (o2, .inl (eC E 0, 4, .inl (fun _ => 0)))] := hD
  refine lv_aload_n hx hb dX6_init_59 rfl (lv_at hl 0 rfl) ?_
  refine lv_iconst (v := 0) hx hb dX6_init_60 (by decide) ?_
  refine va_put (D := eD E) (ci := 10) (v := .int 0) (ty := .int) (C := RX6) (T := TX6) (N := 8) hx hb hts gw_X6 tyX6 tyX6_ok nmX6 hown T.1.1 hP hD hS 0 rfl rfl 5 (by decide) (hts _ lz_fX6_36) (fun _ h9 => h9) rfl (by decide +kernel) rfl rfl (Nat.le_of_ble_eq_true rfl) dX6_init_61 (fun H locs hP hD hS => ?_)
  have hP : va_P (eD E) vwCl [(q0, .inr (10, [.ref l1, .ref l2, .ref l3, .ref qC, .ref qO, .int 0, .int 0, .int 0])), (l1, .inr (3, [.int 0, .ref (eE E), .int 0])), (l2, .inr (3, [.int 0, .ref (eE E), .int 0])), (l3, .inr (3, [.int 0, .ref (eE E), .int 0])), (qC, .inr (4, [.int 0, .ref c1, .ref c2, .ref c3, .ref c4, .int 0])), (c1, .inl (eC E 0, 3, .inl (fun _ => 0))), (c2, .inl (eC E 0, 3, .inl (fun _ => 0))), (c3, .inl (eC E 0, 3, .inl (fun _ => 0))), (c4, .inl (eC E 0, 3, .inl (fun _ => 0))), (qO, .inr (6, [.ref l4, .ref o1, .ref o2, .int 0, .int 0])), (l4, .inr (3, [.int 0, .ref (eE E), .int 0])), (o1, .inl (eC E 0, 4, .inl (fun _ => 0))), (o2, .inl (eC E 0, 4, .inl (fun _ => 0)))] H := hP
  have hD : va_D (AC q0 s.heap.size) [(q0, .inr (10, [.ref l1, .ref l2, .ref l3, .ref qC, .ref qO, .int 0, .int 0, .int 0])), (l1, .inr (3, [.int 0, .ref (eE E), .int 0])), (l2, .inr (3, [.int 0, .ref (eE E), .int 0])), (l3, .inr (3, [.int 0, .ref (eE E), .int 0])), (qC, .inr (4, [.int 0, .ref c1, .ref c2, .ref c3, .ref c4, .int 0])), (c1, .inl (eC E 0, 3, .inl (fun _ => 0))), (c2, .inl (eC E 0, 3, .inl (fun _ => 0))), (c3, .inl (eC E 0, 3, .inl (fun _ => 0))), (c4, .inl (eC E 0, 3, .inl (fun _ => 0))), (qO, .inr (6, [.ref l4, .ref o1, .ref o2, .int 0, .int 0])), (l4, .inr (3, [.int 0, .ref (eE E), .int 0])), (o1, .inl (eC E 0, 4, .inl (fun _ => 0))), (o2, .inl (eC E 0, 4, .inl (fun _ => 0)))] := hD
  refine lv_aload_n hx hb dX6_init_64 rfl (lv_at hl 0 rfl) ?_
  refine lv_bipush (v := 14) hx hb dX6_init_65 (by decide) ?_
  refine va_put (D := eD E) (ci := 10) (v := .int 14) (ty := .int) (C := RX6) (T := TX6) (N := 8) hx hb hts gw_X6 tyX6 tyX6_ok nmX6 hown T.1.1 hP hD hS 0 rfl rfl 6 (by decide) (hts _ lz_fX6_40) (fun _ h9 => h9) rfl (by decide +kernel) rfl rfl (Nat.le_of_ble_eq_true rfl) dX6_init_67 (fun H locs hP hD hS => ?_)
  have hP : va_P (eD E) vwCl [(q0, .inr (10, [.ref l1, .ref l2, .ref l3, .ref qC, .ref qO, .int 0, .int 14, .int 0])), (l1, .inr (3, [.int 0, .ref (eE E), .int 0])), (l2, .inr (3, [.int 0, .ref (eE E), .int 0])), (l3, .inr (3, [.int 0, .ref (eE E), .int 0])), (qC, .inr (4, [.int 0, .ref c1, .ref c2, .ref c3, .ref c4, .int 0])), (c1, .inl (eC E 0, 3, .inl (fun _ => 0))), (c2, .inl (eC E 0, 3, .inl (fun _ => 0))), (c3, .inl (eC E 0, 3, .inl (fun _ => 0))), (c4, .inl (eC E 0, 3, .inl (fun _ => 0))), (qO, .inr (6, [.ref l4, .ref o1, .ref o2, .int 0, .int 0])), (l4, .inr (3, [.int 0, .ref (eE E), .int 0])), (o1, .inl (eC E 0, 4, .inl (fun _ => 0))), (o2, .inl (eC E 0, 4, .inl (fun _ => 0)))] H := hP
  have hD : va_D (AC q0 s.heap.size) [(q0, .inr (10, [.ref l1, .ref l2, .ref l3, .ref qC, .ref qO, .int 0, .int 14, .int 0])), (l1, .inr (3, [.int 0, .ref (eE E), .int 0])), (l2, .inr (3, [.int 0, .ref (eE E), .int 0])), (l3, .inr (3, [.int 0, .ref (eE E), .int 0])), (qC, .inr (4, [.int 0, .ref c1, .ref c2, .ref c3, .ref c4, .int 0])), (c1, .inl (eC E 0, 3, .inl (fun _ => 0))), (c2, .inl (eC E 0, 3, .inl (fun _ => 0))), (c3, .inl (eC E 0, 3, .inl (fun _ => 0))), (c4, .inl (eC E 0, 3, .inl (fun _ => 0))), (qO, .inr (6, [.ref l4, .ref o1, .ref o2, .int 0, .int 0])), (l4, .inr (3, [.int 0, .ref (eE E), .int 0])), (o1, .inl (eC E 0, 4, .inl (fun _ => 0))), (o2, .inl (eC E 0, 4, .inl (fun _ => 0)))] := hD
  refine lv_aload_n hx hb dX6_init_70 rfl (lv_at hl 0 rfl) ?_
  refine lv_bipush (v := 72) hx hb dX6_init_71 (by decide) ?_
  refine va_put (D := eD E) (ci := 10) (v := .int 72) (ty := .int) (C := RX6) (T := TX6) (N := 8) hx hb hts gw_X6 tyX6 tyX6_ok nmX6 hown T.1.1 hP hD hS 0 rfl rfl 7 (by decide) (hts _ lz_fX6_43) (fun _ h9 => h9) rfl (by decide +kernel) rfl rfl (Nat.le_of_ble_eq_true rfl) dX6_init_73 (fun H locs hP hD hS => ?_)
  have hP : va_P (eD E) vwCl [(q0, .inr (10, [.ref l1, .ref l2, .ref l3, .ref qC, .ref qO, .int 0, .int 14, .int 72])), (l1, .inr (3, [.int 0, .ref (eE E), .int 0])), (l2, .inr (3, [.int 0, .ref (eE E), .int 0])), (l3, .inr (3, [.int 0, .ref (eE E), .int 0])), (qC, .inr (4, [.int 0, .ref c1, .ref c2, .ref c3, .ref c4, .int 0])), (c1, .inl (eC E 0, 3, .inl (fun _ => 0))), (c2, .inl (eC E 0, 3, .inl (fun _ => 0))), (c3, .inl (eC E 0, 3, .inl (fun _ => 0))), (c4, .inl (eC E 0, 3, .inl (fun _ => 0))), (qO, .inr (6, [.ref l4, .ref o1, .ref o2, .int 0, .int 0])), (l4, .inr (3, [.int 0, .ref (eE E), .int 0])), (o1, .inl (eC E 0, 4, .inl (fun _ => 0))), (o2, .inl (eC E 0, 4, .inl (fun _ => 0)))] H := hP
  have hD : va_D (AC q0 s.heap.size) [(q0, .inr (10, [.ref l1, .ref l2, .ref l3, .ref qC, .ref qO, .int 0, .int 14, .int 72])), (l1, .inr (3, [.int 0, .ref (eE E), .int 0])), (l2, .inr (3, [.int 0, .ref (eE E), .int 0])), (l3, .inr (3, [.int 0, .ref (eE E), .int 0])), (qC, .inr (4, [.int 0, .ref c1, .ref c2, .ref c3, .ref c4, .int 0])), (c1, .inl (eC E 0, 3, .inl (fun _ => 0))), (c2, .inl (eC E 0, 3, .inl (fun _ => 0))), (c3, .inl (eC E 0, 3, .inl (fun _ => 0))), (c4, .inl (eC E 0, 3, .inl (fun _ => 0))), (qO, .inr (6, [.ref l4, .ref o1, .ref o2, .int 0, .int 0])), (l4, .inr (3, [.int 0, .ref (eE E), .int 0])), (o1, .inl (eC E 0, 4, .inl (fun _ => 0))), (o2, .inl (eC E 0, 4, .inl (fun _ => 0)))] := hD
  refine W.widen (k := 12) (n := 43) (Nat.le_of_ble_eq_true rfl) (Nat.le_of_ble_eq_true rfl) ?_
  exact W.vret hx hb hr (fun t ht hW => ⟨⟨(l1, l2, l3, qC, c1, c2, c3, c4, qO, l4, o1, o2), rfl, trivial, by subst ht; exact ⟨hP, hD⟩⟩, hS.F ht⟩) hS.2.2 dX6_init_76
