/-! NAMES of the law and of its helpers (by wip/names2.py) -/
abbrev zc_L_number : ByteArray := method_3_code
def zy_L_number : MethodName := ⟨zR_L, "number", "(LKeyMeeting;III)I"⟩
def zh_L_number : List (Nat × Nat × Nat × Nat) := [((0), (7), (10), (13))]
def zw_L_number : List Cond := .codeWith zy_L_number zc_L_number 5 (some .int) zh_L_number :: kz_T
theorem zg_L_number : Cond.codeWith zy_L_number zc_L_number 5 (some .int) zh_L_number ∈ kz_T := kz_mw2 88 rfl rfl
abbrev zc_L_small : ByteArray := method_4_code
def zy_L_small : MethodName := ⟨zR_L, "small", "(LKeyMeeting;IJ)I"⟩
def zh_L_small : List (Nat × Nat × Nat × Nat) := [((0), (6), (9), (13)), ((0), (6), (13), (19))]
def zw_L_small : List Cond := .codeWith zy_L_small zc_L_small 5 (some .int) zh_L_small :: kz_T
theorem zg_L_small : Cond.codeWith zy_L_small zc_L_small 5 (some .int) zh_L_small ∈ kz_T := kz_mw2 167 rfl rfl
abbrev zc_L_alter : ByteArray := method_5_code
def zy_L_alter : MethodName := ⟨zR_L, "alter", "(LKeyMeeting;III[J)I"⟩
def zh_L_alter : List (Nat × Nat × Nat × Nat) := [((0), (12), (15), (13))]
def zw_L_alter : List Cond := .codeWith zy_L_alter zc_L_alter 6 (some .int) zh_L_alter :: kz_T
theorem zg_L_alter : Cond.codeWith zy_L_alter zc_L_alter 6 (some .int) zh_L_alter ∈ kz_T := kz_mw2 192 rfl rfl
abbrev zc_L_sent : ByteArray := method_6_code
def zy_L_sent : MethodName := ⟨zR_L, "sent", "(LKeyMeeting;II[J)I"⟩
def zh_L_sent : List (Nat × Nat × Nat × Nat) := [((0), (10), (13), (13))]
def zw_L_sent : List Cond := .codeWith zy_L_sent zc_L_sent 5 (some .int) zh_L_sent :: kz_T
theorem zg_L_sent : Cond.codeWith zy_L_sent zc_L_sent 5 (some .int) zh_L_sent ∈ kz_T := kz_mw2 199 rfl rfl
abbrev zc_L_key : ByteArray := method_7_code
def zy_L_key : MethodName := ⟨zR_L, "key", "(LKeyMeeting;II[J)I"⟩
def zh_L_key : List (Nat × Nat × Nat × Nat) := [((0), (10), (13), (13)), ((0), (10), (17), (32))]
def zw_L_key : List Cond := .codeWith zy_L_key zc_L_key 5 (some .int) zh_L_key :: kz_T
theorem zg_L_key : Cond.codeWith zy_L_key zc_L_key 5 (some .int) zh_L_key ∈ kz_T := kz_mw2 206 rfl rfl
abbrev zc_L_secret : ByteArray := method_8_code
def zy_L_secret : MethodName := ⟨zR_L, "secret", "(LKeyMeeting;I[J)I"⟩
def zh_L_secret : List (Nat × Nat × Nat × Nat) := [((0), (9), (12), (13))]
def zw_L_secret : List Cond := .codeWith zy_L_secret zc_L_secret 4 (some .int) zh_L_secret :: kz_T
theorem zg_L_secret : Cond.codeWith zy_L_secret zc_L_secret 4 (some .int) zh_L_secret ∈ kz_T := kz_mw2 230 rfl rfl
theorem zd_L_number_0 : decode zc_L_number 0 = .ok (.aload_n 0, 1) := by decide +kernel
theorem zd_L_number_1 : decode zc_L_number 1 = .ok (.iload_n 1, 1) := by decide +kernel
theorem zd_L_number_2 : decode zc_L_number 2 = .ok (.iload_n 2, 1) := by decide +kernel
theorem zd_L_number_3 : decode zc_L_number 3 = .ok (.iload_n 3, 1) := by decide +kernel
theorem zd_L_number_4 : decode zc_L_number 4 = .ok (.invokevirtual 7, 3) := by decide +kernel
theorem zd_L_number_7 : decode zc_L_number 7 = .ok (.goto 7, 3) := by decide +kernel
theorem zd_L_number_10 : decode zc_L_number 10 = .ok (.astore 4, 2) := by decide +kernel
theorem zd_L_number_12 : decode zc_L_number 12 = .ok (.iconst 1, 1) := by decide +kernel
theorem zd_L_number_13 : decode zc_L_number 13 = .ok (.ireturn, 1) := by decide +kernel
theorem zd_L_number_14 : decode zc_L_number 14 = .ok (.iconst 0, 1) := by decide +kernel
theorem zd_L_number_15 : decode zc_L_number 15 = .ok (.ireturn, 1) := by decide +kernel
theorem zd_L_small_0 : decode zc_L_small 0 = .ok (.aload_n 0, 1) := by decide +kernel
theorem zd_L_small_1 : decode zc_L_small 1 = .ok (.iload_n 1, 1) := by decide +kernel
theorem zd_L_small_2 : decode zc_L_small 2 = .ok (.lload_n 2, 1) := by decide +kernel
theorem zd_L_small_3 : decode zc_L_small 3 = .ok (.invokevirtual 15, 3) := by decide +kernel
theorem zd_L_small_6 : decode zc_L_small 6 = .ok (.goto 11, 3) := by decide +kernel
theorem zd_L_small_9 : decode zc_L_small 9 = .ok (.astore 4, 2) := by decide +kernel
theorem zd_L_small_11 : decode zc_L_small 11 = .ok (.iconst 1, 1) := by decide +kernel
theorem zd_L_small_12 : decode zc_L_small 12 = .ok (.ireturn, 1) := by decide +kernel
theorem zd_L_small_13 : decode zc_L_small 13 = .ok (.astore 4, 2) := by decide +kernel
theorem zd_L_small_15 : decode zc_L_small 15 = .ok (.iconst 2, 1) := by decide +kernel
theorem zd_L_small_16 : decode zc_L_small 16 = .ok (.ireturn, 1) := by decide +kernel
theorem zd_L_small_17 : decode zc_L_small 17 = .ok (.iconst 0, 1) := by decide +kernel
theorem zd_L_small_18 : decode zc_L_small 18 = .ok (.ireturn, 1) := by decide +kernel
theorem zd_L_alter_0 : decode zc_L_alter 0 = .ok (.aload 4, 2) := by decide +kernel
theorem zd_L_alter_2 : decode zc_L_alter 2 = .ok (.iconst 0, 1) := by decide +kernel
theorem zd_L_alter_3 : decode zc_L_alter 3 = .ok (.aload_n 0, 1) := by decide +kernel
theorem zd_L_alter_4 : decode zc_L_alter 4 = .ok (.iload_n 1, 1) := by decide +kernel
theorem zd_L_alter_5 : decode zc_L_alter 5 = .ok (.iload_n 2, 1) := by decide +kernel
theorem zd_L_alter_6 : decode zc_L_alter 6 = .ok (.iload_n 3, 1) := by decide +kernel
theorem zd_L_alter_7 : decode zc_L_alter 7 = .ok (.invokevirtual 21, 3) := by decide +kernel
theorem zd_L_alter_10 : decode zc_L_alter 10 = .ok (.i2l, 1) := by decide +kernel
theorem zd_L_alter_11 : decode zc_L_alter 11 = .ok (.lastore, 1) := by decide +kernel
theorem zd_L_alter_12 : decode zc_L_alter 12 = .ok (.goto 7, 3) := by decide +kernel
theorem zd_L_alter_15 : decode zc_L_alter 15 = .ok (.astore 5, 2) := by decide +kernel
theorem zd_L_alter_17 : decode zc_L_alter 17 = .ok (.iconst 1, 1) := by decide +kernel
theorem zd_L_alter_18 : decode zc_L_alter 18 = .ok (.ireturn, 1) := by decide +kernel
theorem zd_L_alter_19 : decode zc_L_alter 19 = .ok (.iconst 0, 1) := by decide +kernel
theorem zd_L_alter_20 : decode zc_L_alter 20 = .ok (.ireturn, 1) := by decide +kernel
theorem zd_L_sent_0 : decode zc_L_sent 0 = .ok (.aload_n 3, 1) := by decide +kernel
theorem zd_L_sent_1 : decode zc_L_sent 1 = .ok (.iconst 0, 1) := by decide +kernel
theorem zd_L_sent_2 : decode zc_L_sent 2 = .ok (.aload_n 0, 1) := by decide +kernel
theorem zd_L_sent_3 : decode zc_L_sent 3 = .ok (.iload_n 1, 1) := by decide +kernel
theorem zd_L_sent_4 : decode zc_L_sent 4 = .ok (.iload_n 2, 1) := by decide +kernel
theorem zd_L_sent_5 : decode zc_L_sent 5 = .ok (.invokevirtual 25, 3) := by decide +kernel
theorem zd_L_sent_8 : decode zc_L_sent 8 = .ok (.i2l, 1) := by decide +kernel
theorem zd_L_sent_9 : decode zc_L_sent 9 = .ok (.lastore, 1) := by decide +kernel
theorem zd_L_sent_10 : decode zc_L_sent 10 = .ok (.goto 7, 3) := by decide +kernel
theorem zd_L_sent_13 : decode zc_L_sent 13 = .ok (.astore 4, 2) := by decide +kernel
theorem zd_L_sent_15 : decode zc_L_sent 15 = .ok (.iconst 1, 1) := by decide +kernel
theorem zd_L_sent_16 : decode zc_L_sent 16 = .ok (.ireturn, 1) := by decide +kernel
theorem zd_L_sent_17 : decode zc_L_sent 17 = .ok (.iconst 0, 1) := by decide +kernel
theorem zd_L_sent_18 : decode zc_L_sent 18 = .ok (.ireturn, 1) := by decide +kernel
theorem zd_L_key_0 : decode zc_L_key 0 = .ok (.aload_n 3, 1) := by decide +kernel
theorem zd_L_key_1 : decode zc_L_key 1 = .ok (.iconst 0, 1) := by decide +kernel
theorem zd_L_key_2 : decode zc_L_key 2 = .ok (.aload_n 0, 1) := by decide +kernel
theorem zd_L_key_3 : decode zc_L_key 3 = .ok (.iload_n 1, 1) := by decide +kernel
theorem zd_L_key_4 : decode zc_L_key 4 = .ok (.iload_n 2, 1) := by decide +kernel
theorem zd_L_key_5 : decode zc_L_key 5 = .ok (.invokevirtual 29, 3) := by decide +kernel
theorem zd_L_key_8 : decode zc_L_key 8 = .ok (.i2l, 1) := by decide +kernel
theorem zd_L_key_9 : decode zc_L_key 9 = .ok (.lastore, 1) := by decide +kernel
theorem zd_L_key_10 : decode zc_L_key 10 = .ok (.goto 11, 3) := by decide +kernel
theorem zd_L_key_13 : decode zc_L_key 13 = .ok (.astore 4, 2) := by decide +kernel
theorem zd_L_key_15 : decode zc_L_key 15 = .ok (.iconst 1, 1) := by decide +kernel
theorem zd_L_key_16 : decode zc_L_key 16 = .ok (.ireturn, 1) := by decide +kernel
theorem zd_L_key_17 : decode zc_L_key 17 = .ok (.astore 4, 2) := by decide +kernel
theorem zd_L_key_19 : decode zc_L_key 19 = .ok (.iconst 2, 1) := by decide +kernel
theorem zd_L_key_20 : decode zc_L_key 20 = .ok (.ireturn, 1) := by decide +kernel
theorem zd_L_key_21 : decode zc_L_key 21 = .ok (.iconst 0, 1) := by decide +kernel
theorem zd_L_key_22 : decode zc_L_key 22 = .ok (.ireturn, 1) := by decide +kernel
theorem zd_L_secret_0 : decode zc_L_secret 0 = .ok (.aload_n 2, 1) := by decide +kernel
theorem zd_L_secret_1 : decode zc_L_secret 1 = .ok (.iconst 0, 1) := by decide +kernel
theorem zd_L_secret_2 : decode zc_L_secret 2 = .ok (.aload_n 0, 1) := by decide +kernel
theorem zd_L_secret_3 : decode zc_L_secret 3 = .ok (.iload_n 1, 1) := by decide +kernel
theorem zd_L_secret_4 : decode zc_L_secret 4 = .ok (.invokevirtual 34, 3) := by decide +kernel
theorem zd_L_secret_7 : decode zc_L_secret 7 = .ok (.i2l, 1) := by decide +kernel
theorem zd_L_secret_8 : decode zc_L_secret 8 = .ok (.lastore, 1) := by decide +kernel
theorem zd_L_secret_9 : decode zc_L_secret 9 = .ok (.goto 6, 3) := by decide +kernel
theorem zd_L_secret_12 : decode zc_L_secret 12 = .ok (.astore_n 3, 1) := by decide +kernel
theorem zd_L_secret_13 : decode zc_L_secret 13 = .ok (.iconst 1, 1) := by decide +kernel
theorem zd_L_secret_14 : decode zc_L_secret 14 = .ok (.ireturn, 1) := by decide +kernel
theorem zd_L_secret_15 : decode zc_L_secret 15 = .ok (.iconst 0, 1) := by decide +kernel
theorem zd_L_secret_16 : decode zc_L_secret 16 = .ok (.ireturn, 1) := by decide +kernel
theorem zd_L_law_0 : decode code 0 = .ok (.new 8, 3) := by decide +kernel
theorem zd_L_law_3 : decode code 3 = .ok (.dup, 1) := by decide +kernel
theorem zd_L_law_4 : decode code 4 = .ok (.invokespecial 38, 3) := by decide +kernel
theorem zd_L_law_7 : decode code 7 = .ok (.astore_n 1, 1) := by decide +kernel
theorem zd_L_law_8 : decode code 8 = .ok (.new 39, 3) := by decide +kernel
theorem zd_L_law_11 : decode code 11 = .ok (.dup, 1) := by decide +kernel
theorem zd_L_law_12 : decode code 12 = .ok (.invokespecial 41, 3) := by decide +kernel
theorem zd_L_law_15 : decode code 15 = .ok (.astore_n 2, 1) := by decide +kernel
theorem zd_L_law_16 : decode code 16 = .ok (.iconst 1, 1) := by decide +kernel
theorem zd_L_law_17 : decode code 17 = .ok (.newarray .long, 2) := by decide +kernel
theorem zd_L_law_19 : decode code 19 = .ok (.astore_n 3, 1) := by decide +kernel
theorem zd_L_law_20 : decode code 20 = .ok (.iconst 0, 1) := by decide +kernel
theorem zd_L_law_21 : decode code 21 = .ok (.istore 4, 2) := by decide +kernel
theorem zd_L_law_23 : decode code 23 = .ok (.iload 4, 2) := by decide +kernel
theorem zd_L_law_25 : decode code 25 = .ok (.aload_n 0, 1) := by decide +kernel
theorem zd_L_law_26 : decode code 26 = .ok (.arraylength, 1) := by decide +kernel
theorem zd_L_law_27 : decode code 27 = .ok (.iconst 4, 1) := by decide +kernel
theorem zd_L_law_28 : decode code 28 = .ok (.isub, 1) := by decide +kernel
theorem zd_L_law_29 : decode code 29 = .ok (.if_icmp .gt 414, 3) := by decide +kernel
theorem zd_L_law_32 : decode code 32 = .ok (.aload_n 0, 1) := by decide +kernel
theorem zd_L_law_33 : decode code 33 = .ok (.iload 4, 2) := by decide +kernel
theorem zd_L_law_35 : decode code 35 = .ok (.iaload, 1) := by decide +kernel
theorem zd_L_law_36 : decode code 36 = .ok (.bipush 15, 2) := by decide +kernel
theorem zd_L_law_38 : decode code 38 = .ok (.iand, 1) := by decide +kernel
theorem zd_L_law_39 : decode code 39 = .ok (.tableswitch 398 0 10 #[57, 106, 175, 188, 201, 214, 266, 306, 346, 359, 370], 57) := by decide +kernel
theorem zd_L_law_96 : decode code 96 = .ok (.aload_n 1, 1) := by decide +kernel
theorem zd_L_law_97 : decode code 97 = .ok (.aload_n 0, 1) := by decide +kernel
theorem zd_L_law_98 : decode code 98 = .ok (.iload 4, 2) := by decide +kernel
theorem zd_L_law_100 : decode code 100 = .ok (.iconst 1, 1) := by decide +kernel
theorem zd_L_law_101 : decode code 101 = .ok (.iadd, 1) := by decide +kernel
theorem zd_L_law_102 : decode code 102 = .ok (.iaload, 1) := by decide +kernel
theorem zd_L_law_103 : decode code 103 = .ok (.aload_n 0, 1) := by decide +kernel
theorem zd_L_law_104 : decode code 104 = .ok (.iload 4, 2) := by decide +kernel
theorem zd_L_law_106 : decode code 106 = .ok (.iconst 2, 1) := by decide +kernel
theorem zd_L_law_107 : decode code 107 = .ok (.iadd, 1) := by decide +kernel
theorem zd_L_law_108 : decode code 108 = .ok (.iaload, 1) := by decide +kernel
theorem zd_L_law_109 : decode code 109 = .ok (.aload_n 0, 1) := by decide +kernel
theorem zd_L_law_110 : decode code 110 = .ok (.iload 4, 2) := by decide +kernel
theorem zd_L_law_112 : decode code 112 = .ok (.iconst 3, 1) := by decide +kernel
theorem zd_L_law_113 : decode code 113 = .ok (.iadd, 1) := by decide +kernel
theorem zd_L_law_114 : decode code 114 = .ok (.iaload, 1) := by decide +kernel
theorem zd_L_law_115 : decode code 115 = .ok (.invokestatic 42, 3) := by decide +kernel
theorem zd_L_law_118 : decode code 118 = .ok (.istore 5, 2) := by decide +kernel
theorem zd_L_law_120 : decode code 120 = .ok (.aload_n 2, 1) := by decide +kernel
theorem zd_L_law_121 : decode code 121 = .ok (.aload_n 0, 1) := by decide +kernel
theorem zd_L_law_122 : decode code 122 = .ok (.iload 4, 2) := by decide +kernel
theorem zd_L_law_124 : decode code 124 = .ok (.iconst 1, 1) := by decide +kernel
theorem zd_L_law_125 : decode code 125 = .ok (.iadd, 1) := by decide +kernel
theorem zd_L_law_126 : decode code 126 = .ok (.iaload, 1) := by decide +kernel
theorem zd_L_law_127 : decode code 127 = .ok (.aload_n 0, 1) := by decide +kernel
theorem zd_L_law_128 : decode code 128 = .ok (.iload 4, 2) := by decide +kernel
theorem zd_L_law_130 : decode code 130 = .ok (.iconst 2, 1) := by decide +kernel
theorem zd_L_law_131 : decode code 131 = .ok (.iadd, 1) := by decide +kernel
theorem zd_L_law_132 : decode code 132 = .ok (.iaload, 1) := by decide +kernel
theorem zd_L_law_133 : decode code 133 = .ok (.aload_n 0, 1) := by decide +kernel
theorem zd_L_law_134 : decode code 134 = .ok (.iload 4, 2) := by decide +kernel
theorem zd_L_law_136 : decode code 136 = .ok (.iconst 3, 1) := by decide +kernel
theorem zd_L_law_137 : decode code 137 = .ok (.iadd, 1) := by decide +kernel
theorem zd_L_law_138 : decode code 138 = .ok (.iaload, 1) := by decide +kernel
theorem zd_L_law_139 : decode code 139 = .ok (.invokevirtual 47, 3) := by decide +kernel
theorem zd_L_law_142 : decode code 142 = .ok (.goto 295, 3) := by decide +kernel
theorem zd_L_law_145 : decode code 145 = .ok (.aload_n 1, 1) := by decide +kernel
theorem zd_L_law_146 : decode code 146 = .ok (.aload_n 0, 1) := by decide +kernel
theorem zd_L_law_147 : decode code 147 = .ok (.iload 4, 2) := by decide +kernel
theorem zd_L_law_149 : decode code 149 = .ok (.iconst 1, 1) := by decide +kernel
theorem zd_L_law_150 : decode code 150 = .ok (.iadd, 1) := by decide +kernel
theorem zd_L_law_151 : decode code 151 = .ok (.iaload, 1) := by decide +kernel
theorem zd_L_law_152 : decode code 152 = .ok (.aload_n 0, 1) := by decide +kernel
theorem zd_L_law_153 : decode code 153 = .ok (.iload 4, 2) := by decide +kernel
theorem zd_L_law_155 : decode code 155 = .ok (.iconst 2, 1) := by decide +kernel
theorem zd_L_law_156 : decode code 156 = .ok (.iadd, 1) := by decide +kernel
theorem zd_L_law_157 : decode code 157 = .ok (.iaload, 1) := by decide +kernel
theorem zd_L_law_158 : decode code 158 = .ok (.i2l, 1) := by decide +kernel
theorem zd_L_law_159 : decode code 159 = .ok (.bipush 32, 2) := by decide +kernel
theorem zd_L_law_161 : decode code 161 = .ok (.lshl, 1) := by decide +kernel
theorem zd_L_law_162 : decode code 162 = .ok (.aload_n 0, 1) := by decide +kernel
theorem zd_L_law_163 : decode code 163 = .ok (.iload 4, 2) := by decide +kernel
theorem zd_L_law_165 : decode code 165 = .ok (.iconst 3, 1) := by decide +kernel
theorem zd_L_law_166 : decode code 166 = .ok (.iadd, 1) := by decide +kernel
theorem zd_L_law_167 : decode code 167 = .ok (.iaload, 1) := by decide +kernel
theorem zd_L_law_168 : decode code 168 = .ok (.i2l, 1) := by decide +kernel
theorem zd_L_law_169 : decode code 169 = .ok (.ldc2_w 48, 3) := by decide +kernel
theorem zd_L_law_172 : decode code 172 = .ok (.land, 1) := by decide +kernel
theorem zd_L_law_173 : decode code 173 = .ok (.lor, 1) := by decide +kernel
theorem zd_L_law_174 : decode code 174 = .ok (.invokestatic 50, 3) := by decide +kernel
theorem zd_L_law_177 : decode code 177 = .ok (.istore 5, 2) := by decide +kernel
theorem zd_L_law_179 : decode code 179 = .ok (.aload_n 2, 1) := by decide +kernel
theorem zd_L_law_180 : decode code 180 = .ok (.aload_n 0, 1) := by decide +kernel
theorem zd_L_law_181 : decode code 181 = .ok (.iload 4, 2) := by decide +kernel
theorem zd_L_law_183 : decode code 183 = .ok (.iconst 1, 1) := by decide +kernel
theorem zd_L_law_184 : decode code 184 = .ok (.iadd, 1) := by decide +kernel
theorem zd_L_law_185 : decode code 185 = .ok (.iaload, 1) := by decide +kernel
theorem zd_L_law_186 : decode code 186 = .ok (.aload_n 0, 1) := by decide +kernel
theorem zd_L_law_187 : decode code 187 = .ok (.iload 4, 2) := by decide +kernel
theorem zd_L_law_189 : decode code 189 = .ok (.iconst 2, 1) := by decide +kernel
theorem zd_L_law_190 : decode code 190 = .ok (.iadd, 1) := by decide +kernel
theorem zd_L_law_191 : decode code 191 = .ok (.iaload, 1) := by decide +kernel
theorem zd_L_law_192 : decode code 192 = .ok (.i2l, 1) := by decide +kernel
theorem zd_L_law_193 : decode code 193 = .ok (.bipush 32, 2) := by decide +kernel
theorem zd_L_law_195 : decode code 195 = .ok (.lshl, 1) := by decide +kernel
theorem zd_L_law_196 : decode code 196 = .ok (.aload_n 0, 1) := by decide +kernel
theorem zd_L_law_197 : decode code 197 = .ok (.iload 4, 2) := by decide +kernel
theorem zd_L_law_199 : decode code 199 = .ok (.iconst 3, 1) := by decide +kernel
theorem zd_L_law_200 : decode code 200 = .ok (.iadd, 1) := by decide +kernel
theorem zd_L_law_201 : decode code 201 = .ok (.iaload, 1) := by decide +kernel
theorem zd_L_law_202 : decode code 202 = .ok (.i2l, 1) := by decide +kernel
theorem zd_L_law_203 : decode code 203 = .ok (.ldc2_w 48, 3) := by decide +kernel
theorem zd_L_law_206 : decode code 206 = .ok (.land, 1) := by decide +kernel
theorem zd_L_law_207 : decode code 207 = .ok (.lor, 1) := by decide +kernel
theorem zd_L_law_208 : decode code 208 = .ok (.invokevirtual 53, 3) := by decide +kernel
theorem zd_L_law_211 : decode code 211 = .ok (.goto 226, 3) := by decide +kernel
theorem zd_L_law_214 : decode code 214 = .ok (.aload_n 1, 1) := by decide +kernel
theorem zd_L_law_215 : decode code 215 = .ok (.invokevirtual 54, 3) := by decide +kernel
theorem zd_L_law_218 : decode code 218 = .ok (.pop, 1) := by decide +kernel
theorem zd_L_law_219 : decode code 219 = .ok (.aload_n 2, 1) := by decide +kernel
theorem zd_L_law_220 : decode code 220 = .ok (.invokevirtual 58, 3) := by decide +kernel
theorem zd_L_law_223 : decode code 223 = .ok (.pop, 1) := by decide +kernel
theorem zd_L_law_224 : decode code 224 = .ok (.goto 213, 3) := by decide +kernel
theorem zd_L_law_227 : decode code 227 = .ok (.aload_n 1, 1) := by decide +kernel
theorem zd_L_law_228 : decode code 228 = .ok (.invokevirtual 59, 3) := by decide +kernel
theorem zd_L_law_231 : decode code 231 = .ok (.pop, 1) := by decide +kernel
theorem zd_L_law_232 : decode code 232 = .ok (.aload_n 2, 1) := by decide +kernel
theorem zd_L_law_233 : decode code 233 = .ok (.invokevirtual 62, 3) := by decide +kernel
theorem zd_L_law_236 : decode code 236 = .ok (.pop, 1) := by decide +kernel
theorem zd_L_law_237 : decode code 237 = .ok (.goto 200, 3) := by decide +kernel
theorem zd_L_law_240 : decode code 240 = .ok (.aload_n 1, 1) := by decide +kernel
theorem zd_L_law_241 : decode code 241 = .ok (.invokevirtual 63, 3) := by decide +kernel
theorem zd_L_law_244 : decode code 244 = .ok (.pop, 1) := by decide +kernel
theorem zd_L_law_245 : decode code 245 = .ok (.aload_n 2, 1) := by decide +kernel
theorem zd_L_law_246 : decode code 246 = .ok (.invokevirtual 66, 3) := by decide +kernel
theorem zd_L_law_249 : decode code 249 = .ok (.pop, 1) := by decide +kernel
theorem zd_L_law_250 : decode code 250 = .ok (.goto 187, 3) := by decide +kernel
theorem zd_L_law_253 : decode code 253 = .ok (.aload_n 1, 1) := by decide +kernel
theorem zd_L_law_254 : decode code 254 = .ok (.aload_n 0, 1) := by decide +kernel
theorem zd_L_law_255 : decode code 255 = .ok (.iload 4, 2) := by decide +kernel
theorem zd_L_law_257 : decode code 257 = .ok (.iconst 1, 1) := by decide +kernel
theorem zd_L_law_258 : decode code 258 = .ok (.iadd, 1) := by decide +kernel
theorem zd_L_law_259 : decode code 259 = .ok (.iaload, 1) := by decide +kernel
theorem zd_L_law_260 : decode code 260 = .ok (.aload_n 0, 1) := by decide +kernel
theorem zd_L_law_261 : decode code 261 = .ok (.iload 4, 2) := by decide +kernel
theorem zd_L_law_263 : decode code 263 = .ok (.iconst 2, 1) := by decide +kernel
theorem zd_L_law_264 : decode code 264 = .ok (.iadd, 1) := by decide +kernel
theorem zd_L_law_265 : decode code 265 = .ok (.iaload, 1) := by decide +kernel
theorem zd_L_law_266 : decode code 266 = .ok (.aload_n 0, 1) := by decide +kernel
theorem zd_L_law_267 : decode code 267 = .ok (.iload 4, 2) := by decide +kernel
theorem zd_L_law_269 : decode code 269 = .ok (.iconst 3, 1) := by decide +kernel
theorem zd_L_law_270 : decode code 270 = .ok (.iadd, 1) := by decide +kernel
theorem zd_L_law_271 : decode code 271 = .ok (.iaload, 1) := by decide +kernel
theorem zd_L_law_272 : decode code 272 = .ok (.aload_n 3, 1) := by decide +kernel
theorem zd_L_law_273 : decode code 273 = .ok (.invokestatic 67, 3) := by decide +kernel
theorem zd_L_law_276 : decode code 276 = .ok (.istore 5, 2) := by decide +kernel
theorem zd_L_law_278 : decode code 278 = .ok (.aload_n 2, 1) := by decide +kernel
theorem zd_L_law_279 : decode code 279 = .ok (.aload_n 0, 1) := by decide +kernel
theorem zd_L_law_280 : decode code 280 = .ok (.iload 4, 2) := by decide +kernel
theorem zd_L_law_282 : decode code 282 = .ok (.iconst 1, 1) := by decide +kernel
theorem zd_L_law_283 : decode code 283 = .ok (.iadd, 1) := by decide +kernel
theorem zd_L_law_284 : decode code 284 = .ok (.iaload, 1) := by decide +kernel
theorem zd_L_law_285 : decode code 285 = .ok (.aload_n 0, 1) := by decide +kernel
theorem zd_L_law_286 : decode code 286 = .ok (.iload 4, 2) := by decide +kernel
theorem zd_L_law_288 : decode code 288 = .ok (.iconst 2, 1) := by decide +kernel
theorem zd_L_law_289 : decode code 289 = .ok (.iadd, 1) := by decide +kernel
theorem zd_L_law_290 : decode code 290 = .ok (.iaload, 1) := by decide +kernel
theorem zd_L_law_291 : decode code 291 = .ok (.aload_n 0, 1) := by decide +kernel
theorem zd_L_law_292 : decode code 292 = .ok (.iload 4, 2) := by decide +kernel
theorem zd_L_law_294 : decode code 294 = .ok (.iconst 3, 1) := by decide +kernel
theorem zd_L_law_295 : decode code 295 = .ok (.iadd, 1) := by decide +kernel
theorem zd_L_law_296 : decode code 296 = .ok (.iaload, 1) := by decide +kernel
theorem zd_L_law_297 : decode code 297 = .ok (.invokevirtual 70, 3) := by decide +kernel
theorem zd_L_law_300 : decode code 300 = .ok (.istore 6, 2) := by decide +kernel
theorem zd_L_law_302 : decode code 302 = .ok (.goto 135, 3) := by decide +kernel
theorem zd_L_law_305 : decode code 305 = .ok (.aload_n 1, 1) := by decide +kernel
theorem zd_L_law_306 : decode code 306 = .ok (.aload_n 0, 1) := by decide +kernel
theorem zd_L_law_307 : decode code 307 = .ok (.iload 4, 2) := by decide +kernel
theorem zd_L_law_309 : decode code 309 = .ok (.iconst 1, 1) := by decide +kernel
theorem zd_L_law_310 : decode code 310 = .ok (.iadd, 1) := by decide +kernel
theorem zd_L_law_311 : decode code 311 = .ok (.iaload, 1) := by decide +kernel
theorem zd_L_law_312 : decode code 312 = .ok (.aload_n 0, 1) := by decide +kernel
theorem zd_L_law_313 : decode code 313 = .ok (.iload 4, 2) := by decide +kernel
theorem zd_L_law_315 : decode code 315 = .ok (.iconst 2, 1) := by decide +kernel
theorem zd_L_law_316 : decode code 316 = .ok (.iadd, 1) := by decide +kernel
theorem zd_L_law_317 : decode code 317 = .ok (.iaload, 1) := by decide +kernel
theorem zd_L_law_318 : decode code 318 = .ok (.aload_n 3, 1) := by decide +kernel
theorem zd_L_law_319 : decode code 319 = .ok (.invokestatic 71, 3) := by decide +kernel
theorem zd_L_law_322 : decode code 322 = .ok (.istore 5, 2) := by decide +kernel
theorem zd_L_law_324 : decode code 324 = .ok (.aload_n 2, 1) := by decide +kernel
theorem zd_L_law_325 : decode code 325 = .ok (.aload_n 0, 1) := by decide +kernel
theorem zd_L_law_326 : decode code 326 = .ok (.iload 4, 2) := by decide +kernel
theorem zd_L_law_328 : decode code 328 = .ok (.iconst 1, 1) := by decide +kernel
theorem zd_L_law_329 : decode code 329 = .ok (.iadd, 1) := by decide +kernel
theorem zd_L_law_330 : decode code 330 = .ok (.iaload, 1) := by decide +kernel
theorem zd_L_law_331 : decode code 331 = .ok (.aload_n 0, 1) := by decide +kernel
theorem zd_L_law_332 : decode code 332 = .ok (.iload 4, 2) := by decide +kernel
theorem zd_L_law_334 : decode code 334 = .ok (.iconst 2, 1) := by decide +kernel
theorem zd_L_law_335 : decode code 335 = .ok (.iadd, 1) := by decide +kernel
theorem zd_L_law_336 : decode code 336 = .ok (.iaload, 1) := by decide +kernel
theorem zd_L_law_337 : decode code 337 = .ok (.invokevirtual 74, 3) := by decide +kernel
theorem zd_L_law_340 : decode code 340 = .ok (.istore 6, 2) := by decide +kernel
theorem zd_L_law_342 : decode code 342 = .ok (.goto 95, 3) := by decide +kernel
theorem zd_L_law_345 : decode code 345 = .ok (.aload_n 1, 1) := by decide +kernel
theorem zd_L_law_346 : decode code 346 = .ok (.aload_n 0, 1) := by decide +kernel
theorem zd_L_law_347 : decode code 347 = .ok (.iload 4, 2) := by decide +kernel
theorem zd_L_law_349 : decode code 349 = .ok (.iconst 1, 1) := by decide +kernel
theorem zd_L_law_350 : decode code 350 = .ok (.iadd, 1) := by decide +kernel
theorem zd_L_law_351 : decode code 351 = .ok (.iaload, 1) := by decide +kernel
theorem zd_L_law_352 : decode code 352 = .ok (.aload_n 0, 1) := by decide +kernel
theorem zd_L_law_353 : decode code 353 = .ok (.iload 4, 2) := by decide +kernel
theorem zd_L_law_355 : decode code 355 = .ok (.iconst 2, 1) := by decide +kernel
theorem zd_L_law_356 : decode code 356 = .ok (.iadd, 1) := by decide +kernel
theorem zd_L_law_357 : decode code 357 = .ok (.iaload, 1) := by decide +kernel
theorem zd_L_law_358 : decode code 358 = .ok (.aload_n 3, 1) := by decide +kernel
theorem zd_L_law_359 : decode code 359 = .ok (.invokestatic 75, 3) := by decide +kernel
theorem zd_L_law_362 : decode code 362 = .ok (.istore 5, 2) := by decide +kernel
theorem zd_L_law_364 : decode code 364 = .ok (.aload_n 2, 1) := by decide +kernel
theorem zd_L_law_365 : decode code 365 = .ok (.aload_n 0, 1) := by decide +kernel
theorem zd_L_law_366 : decode code 366 = .ok (.iload 4, 2) := by decide +kernel
theorem zd_L_law_368 : decode code 368 = .ok (.iconst 1, 1) := by decide +kernel
theorem zd_L_law_369 : decode code 369 = .ok (.iadd, 1) := by decide +kernel
theorem zd_L_law_370 : decode code 370 = .ok (.iaload, 1) := by decide +kernel
theorem zd_L_law_371 : decode code 371 = .ok (.aload_n 0, 1) := by decide +kernel
theorem zd_L_law_372 : decode code 372 = .ok (.iload 4, 2) := by decide +kernel
theorem zd_L_law_374 : decode code 374 = .ok (.iconst 2, 1) := by decide +kernel
theorem zd_L_law_375 : decode code 375 = .ok (.iadd, 1) := by decide +kernel
theorem zd_L_law_376 : decode code 376 = .ok (.iaload, 1) := by decide +kernel
theorem zd_L_law_377 : decode code 377 = .ok (.invokevirtual 77, 3) := by decide +kernel
theorem zd_L_law_380 : decode code 380 = .ok (.istore 6, 2) := by decide +kernel
theorem zd_L_law_382 : decode code 382 = .ok (.goto 55, 3) := by decide +kernel
theorem zd_L_law_385 : decode code 385 = .ok (.aload_n 1, 1) := by decide +kernel
theorem zd_L_law_386 : decode code 386 = .ok (.invokevirtual 78, 3) := by decide +kernel
theorem zd_L_law_389 : decode code 389 = .ok (.aload_n 2, 1) := by decide +kernel
theorem zd_L_law_390 : decode code 390 = .ok (.invokevirtual 81, 3) := by decide +kernel
theorem zd_L_law_393 : decode code 393 = .ok (.if_icmp .eq 44, 3) := by decide +kernel
theorem zd_L_law_396 : decode code 396 = .ok (.iconst 0, 1) := by decide +kernel
theorem zd_L_law_397 : decode code 397 = .ok (.ireturn, 1) := by decide +kernel
theorem zd_L_law_398 : decode code 398 = .ok (.aload_n 1, 1) := by decide +kernel
theorem zd_L_law_399 : decode code 399 = .ok (.invokevirtual 82, 3) := by decide +kernel
theorem zd_L_law_402 : decode code 402 = .ok (.aload_n 2, 1) := by decide +kernel
theorem zd_L_law_403 : decode code 403 = .ok (.invokevirtual 85, 3) := by decide +kernel
theorem zd_L_law_406 : decode code 406 = .ok (.goto 31, 3) := by decide +kernel
theorem zd_L_law_409 : decode code 409 = .ok (.aload_n 1, 1) := by decide +kernel
theorem zd_L_law_410 : decode code 410 = .ok (.aload_n 0, 1) := by decide +kernel
theorem zd_L_law_411 : decode code 411 = .ok (.iload 4, 2) := by decide +kernel
theorem zd_L_law_413 : decode code 413 = .ok (.iconst 1, 1) := by decide +kernel
theorem zd_L_law_414 : decode code 414 = .ok (.iadd, 1) := by decide +kernel
theorem zd_L_law_415 : decode code 415 = .ok (.iaload, 1) := by decide +kernel
theorem zd_L_law_416 : decode code 416 = .ok (.aload_n 3, 1) := by decide +kernel
theorem zd_L_law_417 : decode code 417 = .ok (.invokestatic 86, 3) := by decide +kernel
theorem zd_L_law_420 : decode code 420 = .ok (.istore 5, 2) := by decide +kernel
theorem zd_L_law_422 : decode code 422 = .ok (.aload_n 2, 1) := by decide +kernel
theorem zd_L_law_423 : decode code 423 = .ok (.aload_n 0, 1) := by decide +kernel
theorem zd_L_law_424 : decode code 424 = .ok (.iload 4, 2) := by decide +kernel
theorem zd_L_law_426 : decode code 426 = .ok (.iconst 1, 1) := by decide +kernel
theorem zd_L_law_427 : decode code 427 = .ok (.iadd, 1) := by decide +kernel
theorem zd_L_law_428 : decode code 428 = .ok (.iaload, 1) := by decide +kernel
theorem zd_L_law_429 : decode code 429 = .ok (.invokevirtual 89, 3) := by decide +kernel
theorem zd_L_law_432 : decode code 432 = .ok (.istore 6, 2) := by decide +kernel
theorem zd_L_law_434 : decode code 434 = .ok (.goto 3, 3) := by decide +kernel
theorem zd_L_law_437 : decode code 437 = .ok (.iinc 4 4, 3) := by decide +kernel
theorem zd_L_law_440 : decode code 440 = .ok (.goto (-417), 3) := by decide +kernel
theorem zd_L_law_443 : decode code 443 = .ok (.iconst 1, 1) := by decide +kernel
theorem zd_L_law_444 : decode code 444 = .ok (.ireturn, 1) := by decide +kernel
section KW
variable {l : Launch} {cc : ByteArray} {D : va_G} {cl : List vw_C} {tys : List (ClassId × FieldType)} {zs : List (String × String × String × Value)} {ns : List Cond} {wc wr : va_W} {mc ms : Nat} {PX : State → Prop}
/-- a method with handlers, by its contract -/
theorem kz_metW {y : MethodName} {ws ws' : List Cond} {rm : Room} {av : List Value} {sz : Nat} {Qc : (Nat → Prop) → Array Value → State → Outcome → State → Prop} {maxL : Nat} {ret : Option FieldType} {hh : List (Nat × Nat × Nat × Nat)} (hy : plainName y.cls = true) (hw : ws = Cond.codeWith y cc maxL ret hh :: ws') (hav : (lg_sl av).length ≤ maxL)
    (body : ∀ (p : Program) (e : Env) (s : State) (m : MethodId) (below : List Frame) (meth : Method) (c : Code) (A : Nat → Prop) (ls : Array Slot), kz_F p s m av.toArray meth c cc maxL y ws ret → c.exceptionTable.toList.map (fun h => (h.startPc, h.endPc, h.handlerPc, h.catchType)) = hh → (∀ q, s.heap.size ≤ q → A q) → (∀ q, A q → (∃ (k : Nat) (e : va_E), wc[k]? = some (q, e)) ∨ s.heap.size ≤ q) → kz_dy D cl A s.heap s.heap [] wc → va_K D cl tys s → kz_ro D cl A s s.heap wr → kz_Z zs A s s.heap → kz_N ns s → PX s → lv_has ls maxL (lv_args 0 av) →
      W p l e rm s m av.toArray below meth c s.heap [] 0 0 (MQ below (Qc A) av.toArray s mc ms A) (F0 m 0 ls [])) : Met l y ws rm (fun a U => kz_Pc D cl tys zs ns av wc wr sz a U ∧ PX U) (Qc (va_A wc sz)) mc ms (va_A wc sz) := by
  refine va_MetW (cc := cc) (maxL := maxL) (ret := ret) (hh := hh) hy hw ?_
  intro p e s m args below meth c s₁ B hml hv
  obtain ⟨⟨rfl, hsz, hP, hD0, hK, hro, hZ, hN⟩, hPX⟩ := hv
  subst hsz
  have hc := atoms_spec (ws := ws) B.pre (Cond.codeWith y cc maxL ret hh) (by rw [hw]; exact List.mem_cons_self)
  obtain ⟨m9, meth2, c2, hn9, h1, h2, h3, h4, h5, -⟩ := Cond.codeWith_spec hc
  cases B.named.symm.trans hn9
  have e1 : meth = meth2 := Option.some.inj (B.method.symm.trans h1)
  subst e1
  have e2 : c = c2 := Option.some.inj ((Stand.of_body B).code.symm.trans h2)
  subst e2
  rw [lg_entry_eq]
  exact body p e s m below meth c (va_A wc s.heap.size) _ ⟨B.exec, B.bytes, hml, B.returns, findClass_of_methodNamed B.named, B.notSynchronized, atoms_spec (ws := ws) B.pre, (name_of_methodNamed B.named B.method).1⟩ h5 (fun q h => Or.inr h) (fun q h => h) ⟨hP, hD0.self, va_S.rf⟩ hK hro hZ hN hPX (lv_entry av hav)
end KW
/-- one row, two rows of a table -/
theorem kz_tab1 {L : List ExceptionTableEntry} {a b c d : Nat} (h : L.map (fun h => (h.startPc, h.endPc, h.handlerPc, h.catchType)) = [(a, b, c, d)]) : L = [⟨a, b, c, d⟩] := by
  match L, h with
  | [x], h =>
    obtain ⟨x1, x2, x3, x4⟩ := x
    simp only [List.map_cons, List.map_nil, List.cons.injEq, Prod.mk.injEq, and_true] at h
    obtain ⟨rfl, rfl, rfl, rfl⟩ := h
    rfl
theorem kz_tab2 {L : List ExceptionTableEntry} {a b c d a2 b2 c2 d2 : Nat} (h : L.map (fun h => (h.startPc, h.endPc, h.handlerPc, h.catchType)) = [(a, b, c, d), (a2, b2, c2, d2)]) : L = [⟨a, b, c, d⟩, ⟨a2, b2, c2, d2⟩] := by
  match L, h with
  | [x, z], h =>
    obtain ⟨x1, x2, x3, x4⟩ := x
    obtain ⟨z1, z2, z3, z4⟩ := z
    simp only [List.map_cons, List.map_nil, List.cons.injEq, Prod.mk.injEq, and_true] at h
    obtain ⟨⟨rfl, rfl, rfl, rfl⟩, rfl, rfl, rfl, rfl⟩ := h
    rfl
