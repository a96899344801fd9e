/-! The law's own methods: names, words, decode rows: by program (wip/whole/gen/genlaw.py). -/
theorem wi_L : Cond.initialized R_L ∈ mt_T := mt_in1 0 (by decide +kernel) rfl
abbrev c_L_look : ByteArray := method_3_code
def y_L_look : MethodName := ⟨R_L, "look", "(LMailTree;II[J)I"⟩
def hh_L_look : List (Nat × Nat × Nat × Nat) := [(0, 10, 13, 13), (0, 10, 17, 15)]
theorem wc_L_look : Cond.codeWith y_L_look c_L_look 5 (some .int) hh_L_look ∈ mt_T := mt_in3 138 (by decide +kernel) rfl
theorem wt_L_look : Cond.static y_L_look ∈ mt_T := mt_in3 137 (by decide +kernel) rfl
theorem wm_L_62 : Cond.methodLink R_L 62 y_L_look ∈ mt_T := mt_in3 136 (by decide +kernel) rfl
theorem d_L_look_0 : decode c_L_look 0 = .ok (.aload_n 3, 1) := by decide +kernel
theorem d_L_look_1 : decode c_L_look 1 = .ok (.iconst 0, 1) := by decide +kernel
theorem d_L_look_2 : decode c_L_look 2 = .ok (.aload_n 0, 1) := by decide +kernel
theorem d_L_look_3 : decode c_L_look 3 = .ok (.iload_n 1, 1) := by decide +kernel
theorem d_L_look_4 : decode c_L_look 4 = .ok (.iload_n 2, 1) := by decide +kernel
theorem d_L_look_5 : decode c_L_look 5 = .ok (.invokevirtual 7, 3) := by decide +kernel
theorem d_L_look_8 : decode c_L_look 8 = .ok (.i2l, 1) := by decide +kernel
theorem d_L_look_9 : decode c_L_look 9 = .ok (.lastore, 1) := by decide +kernel
theorem d_L_look_10 : decode c_L_look 10 = .ok (.goto 11, 3) := by decide +kernel
theorem d_L_look_13 : decode c_L_look 13 = .ok (.astore 4, 2) := by decide +kernel
theorem d_L_look_15 : decode c_L_look 15 = .ok (.iconst 1, 1) := by decide +kernel
theorem d_L_look_16 : decode c_L_look 16 = .ok (.ireturn, 1) := by decide +kernel
theorem d_L_look_17 : decode c_L_look 17 = .ok (.astore 4, 2) := by decide +kernel
theorem d_L_look_19 : decode c_L_look 19 = .ok (.iconst 2, 1) := by decide +kernel
theorem d_L_look_20 : decode c_L_look 20 = .ok (.ireturn, 1) := by decide +kernel
theorem d_L_look_21 : decode c_L_look 21 = .ok (.iconst 0, 1) := by decide +kernel
theorem d_L_look_22 : decode c_L_look 22 = .ok (.ireturn, 1) := by decide +kernel
abbrev c_L_length : ByteArray := method_4_code
def y_L_length : MethodName := ⟨R_L, "length", "(LMailTree;III[J)I"⟩
def hh_L_length : List (Nat × Nat × Nat × Nat) := [(0, 12, 15, 13), (0, 12, 19, 15)]
theorem wc_L_length : Cond.codeWith y_L_length c_L_length 6 (some .int) hh_L_length ∈ mt_T := mt_in3 235 (by decide +kernel) rfl
theorem wt_L_length : Cond.static y_L_length ∈ mt_T := mt_in3 234 (by decide +kernel) rfl
theorem wm_L_71 : Cond.methodLink R_L 71 y_L_length ∈ mt_T := mt_in3 233 (by decide +kernel) rfl
theorem d_L_length_0 : decode c_L_length 0 = .ok (.aload 4, 2) := by decide +kernel
theorem d_L_length_2 : decode c_L_length 2 = .ok (.iconst 0, 1) := by decide +kernel
theorem d_L_length_3 : decode c_L_length 3 = .ok (.aload_n 0, 1) := by decide +kernel
theorem d_L_length_4 : decode c_L_length 4 = .ok (.iload_n 1, 1) := by decide +kernel
theorem d_L_length_5 : decode c_L_length 5 = .ok (.iload_n 2, 1) := by decide +kernel
theorem d_L_length_6 : decode c_L_length 6 = .ok (.iload_n 3, 1) := by decide +kernel
theorem d_L_length_7 : decode c_L_length 7 = .ok (.invokevirtual 17, 3) := by decide +kernel
theorem d_L_length_10 : decode c_L_length 10 = .ok (.i2l, 1) := by decide +kernel
theorem d_L_length_11 : decode c_L_length 11 = .ok (.lastore, 1) := by decide +kernel
theorem d_L_length_12 : decode c_L_length 12 = .ok (.goto 11, 3) := by decide +kernel
theorem d_L_length_15 : decode c_L_length 15 = .ok (.astore 5, 2) := by decide +kernel
theorem d_L_length_17 : decode c_L_length 17 = .ok (.iconst 1, 1) := by decide +kernel
theorem d_L_length_18 : decode c_L_length 18 = .ok (.ireturn, 1) := by decide +kernel
theorem d_L_length_19 : decode c_L_length 19 = .ok (.astore 5, 2) := by decide +kernel
theorem d_L_length_21 : decode c_L_length 21 = .ok (.iconst 2, 1) := by decide +kernel
theorem d_L_length_22 : decode c_L_length 22 = .ok (.ireturn, 1) := by decide +kernel
theorem d_L_length_23 : decode c_L_length 23 = .ok (.iconst 0, 1) := by decide +kernel
theorem d_L_length_24 : decode c_L_length 24 = .ok (.ireturn, 1) := by decide +kernel
abbrev c_L_letter : ByteArray := method_5_code
def y_L_letter : MethodName := ⟨R_L, "letter", "(LMailTree;IIII[J)I"⟩
def hh_L_letter : List (Nat × Nat × Nat × Nat) := [(0, 14, 17, 13), (0, 14, 21, 15)]
theorem wc_L_letter : Cond.codeWith y_L_letter c_L_letter 7 (some .int) hh_L_letter ∈ mt_T := mt_in4 10 (by decide +kernel) rfl
theorem wt_L_letter : Cond.static y_L_letter ∈ mt_T := mt_in4 9 (by decide +kernel) rfl
theorem wm_L_75 : Cond.methodLink R_L 75 y_L_letter ∈ mt_T := mt_in4 8 (by decide +kernel) rfl
theorem d_L_letter_0 : decode c_L_letter 0 = .ok (.aload 5, 2) := by decide +kernel
theorem d_L_letter_2 : decode c_L_letter 2 = .ok (.iconst 0, 1) := by decide +kernel
theorem d_L_letter_3 : decode c_L_letter 3 = .ok (.aload_n 0, 1) := by decide +kernel
theorem d_L_letter_4 : decode c_L_letter 4 = .ok (.iload_n 1, 1) := by decide +kernel
theorem d_L_letter_5 : decode c_L_letter 5 = .ok (.iload_n 2, 1) := by decide +kernel
theorem d_L_letter_6 : decode c_L_letter 6 = .ok (.iload_n 3, 1) := by decide +kernel
theorem d_L_letter_7 : decode c_L_letter 7 = .ok (.iload 4, 2) := by decide +kernel
theorem d_L_letter_9 : decode c_L_letter 9 = .ok (.invokevirtual 21, 3) := by decide +kernel
theorem d_L_letter_12 : decode c_L_letter 12 = .ok (.i2l, 1) := by decide +kernel
theorem d_L_letter_13 : decode c_L_letter 13 = .ok (.lastore, 1) := by decide +kernel
theorem d_L_letter_14 : decode c_L_letter 14 = .ok (.goto 11, 3) := by decide +kernel
theorem d_L_letter_17 : decode c_L_letter 17 = .ok (.astore 6, 2) := by decide +kernel
theorem d_L_letter_19 : decode c_L_letter 19 = .ok (.iconst 1, 1) := by decide +kernel
theorem d_L_letter_20 : decode c_L_letter 20 = .ok (.ireturn, 1) := by decide +kernel
theorem d_L_letter_21 : decode c_L_letter 21 = .ok (.astore 6, 2) := by decide +kernel
theorem d_L_letter_23 : decode c_L_letter 23 = .ok (.iconst 2, 1) := by decide +kernel
theorem d_L_letter_24 : decode c_L_letter 24 = .ok (.ireturn, 1) := by decide +kernel
theorem d_L_letter_25 : decode c_L_letter 25 = .ok (.iconst 0, 1) := by decide +kernel
theorem d_L_letter_26 : decode c_L_letter 26 = .ok (.ireturn, 1) := by decide +kernel
abbrev c_L_content : ByteArray := method_6_code
def y_L_content : MethodName := ⟨R_L, "content", "(LMailTree;II[J)I"⟩
def hh_L_content : List (Nat × Nat × Nat × Nat) := [(0, 10, 13, 13)]
theorem wc_L_content : Cond.codeWith y_L_content c_L_content 5 (some .int) hh_L_content ∈ mt_T := mt_in4 23 (by decide +kernel) rfl
theorem wt_L_content : Cond.static y_L_content ∈ mt_T := mt_in4 22 (by decide +kernel) rfl
theorem wm_L_79 : Cond.methodLink R_L 79 y_L_content ∈ mt_T := mt_in4 21 (by decide +kernel) rfl
theorem d_L_content_0 : decode c_L_content 0 = .ok (.aload_n 3, 1) := by decide +kernel
theorem d_L_content_1 : decode c_L_content 1 = .ok (.iconst 0, 1) := by decide +kernel
theorem d_L_content_2 : decode c_L_content 2 = .ok (.aload_n 0, 1) := by decide +kernel
theorem d_L_content_3 : decode c_L_content 3 = .ok (.iload_n 1, 1) := by decide +kernel
theorem d_L_content_4 : decode c_L_content 4 = .ok (.iload_n 2, 1) := by decide +kernel
theorem d_L_content_5 : decode c_L_content 5 = .ok (.invokevirtual 25, 3) := by decide +kernel
theorem d_L_content_8 : decode c_L_content 8 = .ok (.i2l, 1) := by decide +kernel
theorem d_L_content_9 : decode c_L_content 9 = .ok (.lastore, 1) := by decide +kernel
theorem d_L_content_10 : decode c_L_content 10 = .ok (.goto 7, 3) := by decide +kernel
theorem d_L_content_13 : decode c_L_content 13 = .ok (.astore 4, 2) := by decide +kernel
theorem d_L_content_15 : decode c_L_content 15 = .ok (.iconst 1, 1) := by decide +kernel
theorem d_L_content_16 : decode c_L_content 16 = .ok (.ireturn, 1) := by decide +kernel
theorem d_L_content_17 : decode c_L_content 17 = .ok (.iconst 0, 1) := by decide +kernel
theorem d_L_content_18 : decode c_L_content 18 = .ok (.ireturn, 1) := by decide +kernel
abbrev c_L_boundary : ByteArray := method_7_code
def y_L_boundary : MethodName := ⟨R_L, "boundary", "(LMailTree;II[J)I"⟩
def hh_L_boundary : List (Nat × Nat × Nat × Nat) := [(0, 10, 13, 13)]
theorem wc_L_boundary : Cond.codeWith y_L_boundary c_L_boundary 5 (some .int) hh_L_boundary ∈ mt_T := mt_in4 30 (by decide +kernel) rfl
theorem wt_L_boundary : Cond.static y_L_boundary ∈ mt_T := mt_in4 29 (by decide +kernel) rfl
theorem wm_L_82 : Cond.methodLink R_L 82 y_L_boundary ∈ mt_T := mt_in4 28 (by decide +kernel) rfl
theorem d_L_boundary_0 : decode c_L_boundary 0 = .ok (.aload_n 3, 1) := by decide +kernel
theorem d_L_boundary_1 : decode c_L_boundary 1 = .ok (.iconst 0, 1) := by decide +kernel
theorem d_L_boundary_2 : decode c_L_boundary 2 = .ok (.aload_n 0, 1) := by decide +kernel
theorem d_L_boundary_3 : decode c_L_boundary 3 = .ok (.iload_n 1, 1) := by decide +kernel
theorem d_L_boundary_4 : decode c_L_boundary 4 = .ok (.iload_n 2, 1) := by decide +kernel
theorem d_L_boundary_5 : decode c_L_boundary 5 = .ok (.invokevirtual 28, 3) := by decide +kernel
theorem d_L_boundary_8 : decode c_L_boundary 8 = .ok (.i2l, 1) := by decide +kernel
theorem d_L_boundary_9 : decode c_L_boundary 9 = .ok (.lastore, 1) := by decide +kernel
theorem d_L_boundary_10 : decode c_L_boundary 10 = .ok (.goto 7, 3) := by decide +kernel
theorem d_L_boundary_13 : decode c_L_boundary 13 = .ok (.astore 4, 2) := by decide +kernel
theorem d_L_boundary_15 : decode c_L_boundary 15 = .ok (.iconst 1, 1) := by decide +kernel
theorem d_L_boundary_16 : decode c_L_boundary 16 = .ok (.ireturn, 1) := by decide +kernel
theorem d_L_boundary_17 : decode c_L_boundary 17 = .ok (.iconst 0, 1) := by decide +kernel
theorem d_L_boundary_18 : decode c_L_boundary 18 = .ok (.ireturn, 1) := by decide +kernel
abbrev c_L_write : ByteArray := method_8_code
def y_L_write : MethodName := ⟨R_L, "write", "(LMailTree;[J)I"⟩
def hh_L_write : List (Nat × Nat × Nat × Nat) := [(0, 8, 11, 35), (0, 8, 14, 37)]
theorem wc_L_write : Cond.codeWith y_L_write c_L_write 3 (some .int) hh_L_write ∈ mt_T := mt_in4 37 (by decide +kernel) rfl
theorem wt_L_write : Cond.static y_L_write ∈ mt_T := mt_in4 36 (by decide +kernel) rfl
theorem wm_L_85 : Cond.methodLink R_L 85 y_L_write ∈ mt_T := mt_in4 35 (by decide +kernel) rfl
theorem d_L_write_0 : decode c_L_write 0 = .ok (.aload_n 1, 1) := by decide +kernel
theorem d_L_write_1 : decode c_L_write 1 = .ok (.iconst 0, 1) := by decide +kernel
theorem d_L_write_2 : decode c_L_write 2 = .ok (.aload_n 0, 1) := by decide +kernel
theorem d_L_write_3 : decode c_L_write 3 = .ok (.invokevirtual 31, 3) := by decide +kernel
theorem d_L_write_6 : decode c_L_write 6 = .ok (.i2l, 1) := by decide +kernel
theorem d_L_write_7 : decode c_L_write 7 = .ok (.lastore, 1) := by decide +kernel
theorem d_L_write_8 : decode c_L_write 8 = .ok (.goto 9, 3) := by decide +kernel
theorem d_L_write_11 : decode c_L_write 11 = .ok (.astore_n 2, 1) := by decide +kernel
theorem d_L_write_12 : decode c_L_write 12 = .ok (.iconst 1, 1) := by decide +kernel
theorem d_L_write_13 : decode c_L_write 13 = .ok (.ireturn, 1) := by decide +kernel
theorem d_L_write_14 : decode c_L_write 14 = .ok (.astore_n 2, 1) := by decide +kernel
theorem d_L_write_15 : decode c_L_write 15 = .ok (.iconst 2, 1) := by decide +kernel
theorem d_L_write_16 : decode c_L_write 16 = .ok (.ireturn, 1) := by decide +kernel
theorem d_L_write_17 : decode c_L_write 17 = .ok (.iconst 0, 1) := by decide +kernel
theorem d_L_write_18 : decode c_L_write 18 = .ok (.ireturn, 1) := by decide +kernel
abbrev c_L_law : ByteArray := code
theorem d_L_law_0 : decode c_L_law 0 = .ok (.new 8, 3) := by decide +kernel
theorem d_L_law_3 : decode c_L_law 3 = .ok (.dup, 1) := by decide +kernel
theorem d_L_law_4 : decode c_L_law 4 = .ok (.invokespecial 39, 3) := by decide +kernel
theorem d_L_law_7 : decode c_L_law 7 = .ok (.astore_n 1, 1) := by decide +kernel
theorem d_L_law_8 : decode c_L_law 8 = .ok (.new 40, 3) := by decide +kernel
theorem d_L_law_11 : decode c_L_law 11 = .ok (.dup, 1) := by decide +kernel
theorem d_L_law_12 : decode c_L_law 12 = .ok (.invokespecial 42, 3) := by decide +kernel
theorem d_L_law_15 : decode c_L_law 15 = .ok (.astore_n 2, 1) := by decide +kernel
theorem d_L_law_16 : decode c_L_law 16 = .ok (.iconst 1, 1) := by decide +kernel
theorem d_L_law_17 : decode c_L_law 17 = .ok (.newarray .long, 2) := by decide +kernel
theorem d_L_law_19 : decode c_L_law 19 = .ok (.astore_n 3, 1) := by decide +kernel
theorem d_L_law_20 : decode c_L_law 20 = .ok (.iconst 0, 1) := by decide +kernel
theorem d_L_law_21 : decode c_L_law 21 = .ok (.istore 4, 2) := by decide +kernel
theorem d_L_law_23 : decode c_L_law 23 = .ok (.iload 4, 2) := by decide +kernel
theorem d_L_law_25 : decode c_L_law 25 = .ok (.aload_n 0, 1) := by decide +kernel
theorem d_L_law_26 : decode c_L_law 26 = .ok (.arraylength, 1) := by decide +kernel
theorem d_L_law_27 : decode c_L_law 27 = .ok (.iconst 5, 1) := by decide +kernel
theorem d_L_law_28 : decode c_L_law 28 = .ok (.isub, 1) := by decide +kernel
theorem d_L_law_29 : decode c_L_law 29 = .ok (.if_icmp .gt 643, 3) := by decide +kernel
theorem d_L_law_32 : decode c_L_law 32 = .ok (.aload_n 0, 1) := by decide +kernel
theorem d_L_law_33 : decode c_L_law 33 = .ok (.iload 4, 2) := by decide +kernel
theorem d_L_law_35 : decode c_L_law 35 = .ok (.iaload, 1) := by decide +kernel
theorem d_L_law_36 : decode c_L_law 36 = .ok (.bipush 15, 2) := by decide +kernel
theorem d_L_law_38 : decode c_L_law 38 = .ok (.iand, 1) := by decide +kernel
theorem d_L_law_39 : decode c_L_law 39 = .ok (.tableswitch 627 0 11 #[61, 130, 143, 156, 169, 237, 317, 409, 477, 545, 589, 614], 61) := by decide +kernel
theorem d_L_law_100 : decode c_L_law 100 = .ok (.aload_n 1, 1) := by decide +kernel
theorem d_L_law_101 : decode c_L_law 101 = .ok (.aload_n 0, 1) := by decide +kernel
theorem d_L_law_102 : decode c_L_law 102 = .ok (.iload 4, 2) := by decide +kernel
theorem d_L_law_104 : decode c_L_law 104 = .ok (.iconst 1, 1) := by decide +kernel
theorem d_L_law_105 : decode c_L_law 105 = .ok (.iadd, 1) := by decide +kernel
theorem d_L_law_106 : decode c_L_law 106 = .ok (.iaload, 1) := by decide +kernel
theorem d_L_law_107 : decode c_L_law 107 = .ok (.i2l, 1) := by decide +kernel
theorem d_L_law_108 : decode c_L_law 108 = .ok (.bipush 32, 2) := by decide +kernel
theorem d_L_law_110 : decode c_L_law 110 = .ok (.lshl, 1) := by decide +kernel
theorem d_L_law_111 : decode c_L_law 111 = .ok (.aload_n 0, 1) := by decide +kernel
theorem d_L_law_112 : decode c_L_law 112 = .ok (.iload 4, 2) := by decide +kernel
theorem d_L_law_114 : decode c_L_law 114 = .ok (.iconst 2, 1) := by decide +kernel
theorem d_L_law_115 : decode c_L_law 115 = .ok (.iadd, 1) := by decide +kernel
theorem d_L_law_116 : decode c_L_law 116 = .ok (.iaload, 1) := by decide +kernel
theorem d_L_law_117 : decode c_L_law 117 = .ok (.i2l, 1) := by decide +kernel
theorem d_L_law_118 : decode c_L_law 118 = .ok (.ldc2_w 43, 3) := by decide +kernel
theorem d_L_law_121 : decode c_L_law 121 = .ok (.land, 1) := by decide +kernel
theorem d_L_law_122 : decode c_L_law 122 = .ok (.lor, 1) := by decide +kernel
theorem d_L_law_123 : decode c_L_law 123 = .ok (.aload_n 0, 1) := by decide +kernel
theorem d_L_law_124 : decode c_L_law 124 = .ok (.iload 4, 2) := by decide +kernel
theorem d_L_law_126 : decode c_L_law 126 = .ok (.iconst 3, 1) := by decide +kernel
theorem d_L_law_127 : decode c_L_law 127 = .ok (.iadd, 1) := by decide +kernel
theorem d_L_law_128 : decode c_L_law 128 = .ok (.iaload, 1) := by decide +kernel
theorem d_L_law_129 : decode c_L_law 129 = .ok (.invokevirtual 45, 3) := by decide +kernel
theorem d_L_law_132 : decode c_L_law 132 = .ok (.aload_n 2, 1) := by decide +kernel
theorem d_L_law_133 : decode c_L_law 133 = .ok (.aload_n 0, 1) := by decide +kernel
theorem d_L_law_134 : decode c_L_law 134 = .ok (.iload 4, 2) := by decide +kernel
theorem d_L_law_136 : decode c_L_law 136 = .ok (.iconst 1, 1) := by decide +kernel
theorem d_L_law_137 : decode c_L_law 137 = .ok (.iadd, 1) := by decide +kernel
theorem d_L_law_138 : decode c_L_law 138 = .ok (.iaload, 1) := by decide +kernel
theorem d_L_law_139 : decode c_L_law 139 = .ok (.i2l, 1) := by decide +kernel
theorem d_L_law_140 : decode c_L_law 140 = .ok (.bipush 32, 2) := by decide +kernel
theorem d_L_law_142 : decode c_L_law 142 = .ok (.lshl, 1) := by decide +kernel
theorem d_L_law_143 : decode c_L_law 143 = .ok (.aload_n 0, 1) := by decide +kernel
theorem d_L_law_144 : decode c_L_law 144 = .ok (.iload 4, 2) := by decide +kernel
theorem d_L_law_146 : decode c_L_law 146 = .ok (.iconst 2, 1) := by decide +kernel
theorem d_L_law_147 : decode c_L_law 147 = .ok (.iadd, 1) := by decide +kernel
theorem d_L_law_148 : decode c_L_law 148 = .ok (.iaload, 1) := by decide +kernel
theorem d_L_law_149 : decode c_L_law 149 = .ok (.i2l, 1) := by decide +kernel
theorem d_L_law_150 : decode c_L_law 150 = .ok (.ldc2_w 43, 3) := by decide +kernel
theorem d_L_law_153 : decode c_L_law 153 = .ok (.land, 1) := by decide +kernel
theorem d_L_law_154 : decode c_L_law 154 = .ok (.lor, 1) := by decide +kernel
theorem d_L_law_155 : decode c_L_law 155 = .ok (.aload_n 0, 1) := by decide +kernel
theorem d_L_law_156 : decode c_L_law 156 = .ok (.iload 4, 2) := by decide +kernel
theorem d_L_law_158 : decode c_L_law 158 = .ok (.iconst 3, 1) := by decide +kernel
theorem d_L_law_159 : decode c_L_law 159 = .ok (.iadd, 1) := by decide +kernel
theorem d_L_law_160 : decode c_L_law 160 = .ok (.iaload, 1) := by decide +kernel
theorem d_L_law_161 : decode c_L_law 161 = .ok (.invokevirtual 49, 3) := by decide +kernel
theorem d_L_law_164 : decode c_L_law 164 = .ok (.if_icmp .eq 502, 3) := by decide +kernel
theorem d_L_law_167 : decode c_L_law 167 = .ok (.iconst 0, 1) := by decide +kernel
theorem d_L_law_168 : decode c_L_law 168 = .ok (.ireturn, 1) := by decide +kernel
theorem d_L_law_169 : decode c_L_law 169 = .ok (.aload_n 1, 1) := by decide +kernel
theorem d_L_law_170 : decode c_L_law 170 = .ok (.invokevirtual 50, 3) := by decide +kernel
theorem d_L_law_173 : decode c_L_law 173 = .ok (.aload_n 2, 1) := by decide +kernel
theorem d_L_law_174 : decode c_L_law 174 = .ok (.invokevirtual 53, 3) := by decide +kernel
theorem d_L_law_177 : decode c_L_law 177 = .ok (.if_icmp .eq 489, 3) := by decide +kernel
theorem d_L_law_180 : decode c_L_law 180 = .ok (.iconst 0, 1) := by decide +kernel
theorem d_L_law_181 : decode c_L_law 181 = .ok (.ireturn, 1) := by decide +kernel
theorem d_L_law_182 : decode c_L_law 182 = .ok (.aload_n 1, 1) := by decide +kernel
theorem d_L_law_183 : decode c_L_law 183 = .ok (.invokevirtual 54, 3) := by decide +kernel
theorem d_L_law_186 : decode c_L_law 186 = .ok (.aload_n 2, 1) := by decide +kernel
theorem d_L_law_187 : decode c_L_law 187 = .ok (.invokevirtual 57, 3) := by decide +kernel
theorem d_L_law_190 : decode c_L_law 190 = .ok (.if_icmp .eq 476, 3) := by decide +kernel
theorem d_L_law_193 : decode c_L_law 193 = .ok (.iconst 0, 1) := by decide +kernel
theorem d_L_law_194 : decode c_L_law 194 = .ok (.ireturn, 1) := by decide +kernel
theorem d_L_law_195 : decode c_L_law 195 = .ok (.aload_n 1, 1) := by decide +kernel
theorem d_L_law_196 : decode c_L_law 196 = .ok (.invokevirtual 58, 3) := by decide +kernel
theorem d_L_law_199 : decode c_L_law 199 = .ok (.aload_n 2, 1) := by decide +kernel
theorem d_L_law_200 : decode c_L_law 200 = .ok (.invokevirtual 61, 3) := by decide +kernel
theorem d_L_law_203 : decode c_L_law 203 = .ok (.if_icmp .eq 463, 3) := by decide +kernel
theorem d_L_law_206 : decode c_L_law 206 = .ok (.iconst 0, 1) := by decide +kernel
theorem d_L_law_207 : decode c_L_law 207 = .ok (.ireturn, 1) := by decide +kernel
theorem d_L_law_208 : decode c_L_law 208 = .ok (.aload_n 1, 1) := by decide +kernel
theorem d_L_law_209 : decode c_L_law 209 = .ok (.aload_n 0, 1) := by decide +kernel
theorem d_L_law_210 : decode c_L_law 210 = .ok (.iload 4, 2) := by decide +kernel
theorem d_L_law_212 : decode c_L_law 212 = .ok (.iconst 1, 1) := by decide +kernel
theorem d_L_law_213 : decode c_L_law 213 = .ok (.iadd, 1) := by decide +kernel
theorem d_L_law_214 : decode c_L_law 214 = .ok (.iaload, 1) := by decide +kernel
theorem d_L_law_215 : decode c_L_law 215 = .ok (.aload_n 0, 1) := by decide +kernel
theorem d_L_law_216 : decode c_L_law 216 = .ok (.iload 4, 2) := by decide +kernel
theorem d_L_law_218 : decode c_L_law 218 = .ok (.iconst 2, 1) := by decide +kernel
theorem d_L_law_219 : decode c_L_law 219 = .ok (.iadd, 1) := by decide +kernel
theorem d_L_law_220 : decode c_L_law 220 = .ok (.iaload, 1) := by decide +kernel
theorem d_L_law_221 : decode c_L_law 221 = .ok (.aload_n 3, 1) := by decide +kernel
theorem d_L_law_222 : decode c_L_law 222 = .ok (.invokestatic 62, 3) := by decide +kernel
theorem d_L_law_225 : decode c_L_law 225 = .ok (.istore 5, 2) := by decide +kernel
theorem d_L_law_227 : decode c_L_law 227 = .ok (.aload_n 2, 1) := by decide +kernel
theorem d_L_law_228 : decode c_L_law 228 = .ok (.aload_n 0, 1) := by decide +kernel
theorem d_L_law_229 : decode c_L_law 229 = .ok (.iload 4, 2) := by decide +kernel
theorem d_L_law_231 : decode c_L_law 231 = .ok (.iconst 1, 1) := by decide +kernel
theorem d_L_law_232 : decode c_L_law 232 = .ok (.iadd, 1) := by decide +kernel
theorem d_L_law_233 : decode c_L_law 233 = .ok (.iaload, 1) := by decide +kernel
theorem d_L_law_234 : decode c_L_law 234 = .ok (.aload_n 0, 1) := by decide +kernel
theorem d_L_law_235 : decode c_L_law 235 = .ok (.iload 4, 2) := by decide +kernel
theorem d_L_law_237 : decode c_L_law 237 = .ok (.iconst 2, 1) := by decide +kernel
theorem d_L_law_238 : decode c_L_law 238 = .ok (.iadd, 1) := by decide +kernel
theorem d_L_law_239 : decode c_L_law 239 = .ok (.iaload, 1) := by decide +kernel
theorem d_L_law_240 : decode c_L_law 240 = .ok (.invokevirtual 67, 3) := by decide +kernel
theorem d_L_law_243 : decode c_L_law 243 = .ok (.istore 6, 2) := by decide +kernel
theorem d_L_law_245 : decode c_L_law 245 = .ok (.aload_n 2, 1) := by decide +kernel
theorem d_L_law_246 : decode c_L_law 246 = .ok (.invokevirtual 68, 3) := by decide +kernel
theorem d_L_law_249 : decode c_L_law 249 = .ok (.iload 5, 2) := by decide +kernel
theorem d_L_law_251 : decode c_L_law 251 = .ok (.if_icmp .eq 5, 3) := by decide +kernel
theorem d_L_law_254 : decode c_L_law 254 = .ok (.iconst 0, 1) := by decide +kernel
theorem d_L_law_255 : decode c_L_law 255 = .ok (.ireturn, 1) := by decide +kernel
theorem d_L_law_256 : decode c_L_law 256 = .ok (.iload 5, 2) := by decide +kernel
theorem d_L_law_258 : decode c_L_law 258 = .ok (.ifCond .ne 15, 3) := by decide +kernel
theorem d_L_law_261 : decode c_L_law 261 = .ok (.aload_n 3, 1) := by decide +kernel
theorem d_L_law_262 : decode c_L_law 262 = .ok (.iconst 0, 1) := by decide +kernel
theorem d_L_law_263 : decode c_L_law 263 = .ok (.laload, 1) := by decide +kernel
theorem d_L_law_264 : decode c_L_law 264 = .ok (.iload 6, 2) := by decide +kernel
theorem d_L_law_266 : decode c_L_law 266 = .ok (.i2l, 1) := by decide +kernel
theorem d_L_law_267 : decode c_L_law 267 = .ok (.lcmp, 1) := by decide +kernel
theorem d_L_law_268 : decode c_L_law 268 = .ok (.ifCond .eq 5, 3) := by decide +kernel
theorem d_L_law_271 : decode c_L_law 271 = .ok (.iconst 0, 1) := by decide +kernel
theorem d_L_law_272 : decode c_L_law 272 = .ok (.ireturn, 1) := by decide +kernel
theorem d_L_law_273 : decode c_L_law 273 = .ok (.goto 393, 3) := by decide +kernel
theorem d_L_law_276 : decode c_L_law 276 = .ok (.aload_n 1, 1) := by decide +kernel
theorem d_L_law_277 : decode c_L_law 277 = .ok (.aload_n 0, 1) := by decide +kernel
theorem d_L_law_278 : decode c_L_law 278 = .ok (.iload 4, 2) := by decide +kernel
theorem d_L_law_280 : decode c_L_law 280 = .ok (.iconst 1, 1) := by decide +kernel
theorem d_L_law_281 : decode c_L_law 281 = .ok (.iadd, 1) := by decide +kernel
theorem d_L_law_282 : decode c_L_law 282 = .ok (.iaload, 1) := by decide +kernel
theorem d_L_law_283 : decode c_L_law 283 = .ok (.aload_n 0, 1) := by decide +kernel
theorem d_L_law_284 : decode c_L_law 284 = .ok (.iload 4, 2) := by decide +kernel
theorem d_L_law_286 : decode c_L_law 286 = .ok (.iconst 2, 1) := by decide +kernel
theorem d_L_law_287 : decode c_L_law 287 = .ok (.iadd, 1) := by decide +kernel
theorem d_L_law_288 : decode c_L_law 288 = .ok (.iaload, 1) := by decide +kernel
theorem d_L_law_289 : decode c_L_law 289 = .ok (.aload_n 0, 1) := by decide +kernel
theorem d_L_law_290 : decode c_L_law 290 = .ok (.iload 4, 2) := by decide +kernel
theorem d_L_law_292 : decode c_L_law 292 = .ok (.iconst 3, 1) := by decide +kernel
theorem d_L_law_293 : decode c_L_law 293 = .ok (.iadd, 1) := by decide +kernel
theorem d_L_law_294 : decode c_L_law 294 = .ok (.iaload, 1) := by decide +kernel
theorem d_L_law_295 : decode c_L_law 295 = .ok (.aload_n 3, 1) := by decide +kernel
theorem d_L_law_296 : decode c_L_law 296 = .ok (.invokestatic 71, 3) := by decide +kernel
theorem d_L_law_299 : decode c_L_law 299 = .ok (.istore 5, 2) := by decide +kernel
theorem d_L_law_301 : decode c_L_law 301 = .ok (.aload_n 2, 1) := by decide +kernel
theorem d_L_law_302 : decode c_L_law 302 = .ok (.aload_n 0, 1) := by decide +kernel
theorem d_L_law_303 : decode c_L_law 303 = .ok (.iload 4, 2) := by decide +kernel
theorem d_L_law_305 : decode c_L_law 305 = .ok (.iconst 1, 1) := by decide +kernel
theorem d_L_law_306 : decode c_L_law 306 = .ok (.iadd, 1) := by decide +kernel
theorem d_L_law_307 : decode c_L_law 307 = .ok (.iaload, 1) := by decide +kernel
theorem d_L_law_308 : decode c_L_law 308 = .ok (.aload_n 0, 1) := by decide +kernel
theorem d_L_law_309 : decode c_L_law 309 = .ok (.iload 4, 2) := by decide +kernel
theorem d_L_law_311 : decode c_L_law 311 = .ok (.iconst 2, 1) := by decide +kernel
theorem d_L_law_312 : decode c_L_law 312 = .ok (.iadd, 1) := by decide +kernel
theorem d_L_law_313 : decode c_L_law 313 = .ok (.iaload, 1) := by decide +kernel
theorem d_L_law_314 : decode c_L_law 314 = .ok (.aload_n 0, 1) := by decide +kernel
theorem d_L_law_315 : decode c_L_law 315 = .ok (.iload 4, 2) := by decide +kernel
theorem d_L_law_317 : decode c_L_law 317 = .ok (.iconst 3, 1) := by decide +kernel
theorem d_L_law_318 : decode c_L_law 318 = .ok (.iadd, 1) := by decide +kernel
theorem d_L_law_319 : decode c_L_law 319 = .ok (.iaload, 1) := by decide +kernel
theorem d_L_law_320 : decode c_L_law 320 = .ok (.invokevirtual 74, 3) := by decide +kernel
theorem d_L_law_323 : decode c_L_law 323 = .ok (.istore 6, 2) := by decide +kernel
theorem d_L_law_325 : decode c_L_law 325 = .ok (.aload_n 2, 1) := by decide +kernel
theorem d_L_law_326 : decode c_L_law 326 = .ok (.invokevirtual 68, 3) := by decide +kernel
theorem d_L_law_329 : decode c_L_law 329 = .ok (.iload 5, 2) := by decide +kernel
theorem d_L_law_331 : decode c_L_law 331 = .ok (.if_icmp .eq 5, 3) := by decide +kernel
theorem d_L_law_334 : decode c_L_law 334 = .ok (.iconst 0, 1) := by decide +kernel
theorem d_L_law_335 : decode c_L_law 335 = .ok (.ireturn, 1) := by decide +kernel
theorem d_L_law_336 : decode c_L_law 336 = .ok (.iload 5, 2) := by decide +kernel
theorem d_L_law_338 : decode c_L_law 338 = .ok (.ifCond .ne 15, 3) := by decide +kernel
theorem d_L_law_341 : decode c_L_law 341 = .ok (.aload_n 3, 1) := by decide +kernel
theorem d_L_law_342 : decode c_L_law 342 = .ok (.iconst 0, 1) := by decide +kernel
theorem d_L_law_343 : decode c_L_law 343 = .ok (.laload, 1) := by decide +kernel
theorem d_L_law_344 : decode c_L_law 344 = .ok (.iload 6, 2) := by decide +kernel
theorem d_L_law_346 : decode c_L_law 346 = .ok (.i2l, 1) := by decide +kernel
theorem d_L_law_347 : decode c_L_law 347 = .ok (.lcmp, 1) := by decide +kernel
theorem d_L_law_348 : decode c_L_law 348 = .ok (.ifCond .eq 5, 3) := by decide +kernel
theorem d_L_law_351 : decode c_L_law 351 = .ok (.iconst 0, 1) := by decide +kernel
theorem d_L_law_352 : decode c_L_law 352 = .ok (.ireturn, 1) := by decide +kernel
theorem d_L_law_353 : decode c_L_law 353 = .ok (.goto 313, 3) := by decide +kernel
theorem d_L_law_356 : decode c_L_law 356 = .ok (.aload_n 1, 1) := by decide +kernel
theorem d_L_law_357 : decode c_L_law 357 = .ok (.aload_n 0, 1) := by decide +kernel
theorem d_L_law_358 : decode c_L_law 358 = .ok (.iload 4, 2) := by decide +kernel
theorem d_L_law_360 : decode c_L_law 360 = .ok (.iconst 1, 1) := by decide +kernel
theorem d_L_law_361 : decode c_L_law 361 = .ok (.iadd, 1) := by decide +kernel
theorem d_L_law_362 : decode c_L_law 362 = .ok (.iaload, 1) := by decide +kernel
theorem d_L_law_363 : decode c_L_law 363 = .ok (.aload_n 0, 1) := by decide +kernel
theorem d_L_law_364 : decode c_L_law 364 = .ok (.iload 4, 2) := by decide +kernel
theorem d_L_law_366 : decode c_L_law 366 = .ok (.iconst 2, 1) := by decide +kernel
theorem d_L_law_367 : decode c_L_law 367 = .ok (.iadd, 1) := by decide +kernel
theorem d_L_law_368 : decode c_L_law 368 = .ok (.iaload, 1) := by decide +kernel
theorem d_L_law_369 : decode c_L_law 369 = .ok (.aload_n 0, 1) := by decide +kernel
theorem d_L_law_370 : decode c_L_law 370 = .ok (.iload 4, 2) := by decide +kernel
theorem d_L_law_372 : decode c_L_law 372 = .ok (.iconst 3, 1) := by decide +kernel
theorem d_L_law_373 : decode c_L_law 373 = .ok (.iadd, 1) := by decide +kernel
theorem d_L_law_374 : decode c_L_law 374 = .ok (.iaload, 1) := by decide +kernel
theorem d_L_law_375 : decode c_L_law 375 = .ok (.aload_n 0, 1) := by decide +kernel
theorem d_L_law_376 : decode c_L_law 376 = .ok (.iload 4, 2) := by decide +kernel
theorem d_L_law_378 : decode c_L_law 378 = .ok (.iconst 4, 1) := by decide +kernel
theorem d_L_law_379 : decode c_L_law 379 = .ok (.iadd, 1) := by decide +kernel
theorem d_L_law_380 : decode c_L_law 380 = .ok (.iaload, 1) := by decide +kernel
theorem d_L_law_381 : decode c_L_law 381 = .ok (.aload_n 3, 1) := by decide +kernel
theorem d_L_law_382 : decode c_L_law 382 = .ok (.invokestatic 75, 3) := by decide +kernel
theorem d_L_law_385 : decode c_L_law 385 = .ok (.istore 5, 2) := by decide +kernel
theorem d_L_law_387 : decode c_L_law 387 = .ok (.aload_n 2, 1) := by decide +kernel
theorem d_L_law_388 : decode c_L_law 388 = .ok (.aload_n 0, 1) := by decide +kernel
theorem d_L_law_389 : decode c_L_law 389 = .ok (.iload 4, 2) := by decide +kernel
theorem d_L_law_391 : decode c_L_law 391 = .ok (.iconst 1, 1) := by decide +kernel
theorem d_L_law_392 : decode c_L_law 392 = .ok (.iadd, 1) := by decide +kernel
theorem d_L_law_393 : decode c_L_law 393 = .ok (.iaload, 1) := by decide +kernel
theorem d_L_law_394 : decode c_L_law 394 = .ok (.aload_n 0, 1) := by decide +kernel
theorem d_L_law_395 : decode c_L_law 395 = .ok (.iload 4, 2) := by decide +kernel
theorem d_L_law_397 : decode c_L_law 397 = .ok (.iconst 2, 1) := by decide +kernel
theorem d_L_law_398 : decode c_L_law 398 = .ok (.iadd, 1) := by decide +kernel
theorem d_L_law_399 : decode c_L_law 399 = .ok (.iaload, 1) := by decide +kernel
theorem d_L_law_400 : decode c_L_law 400 = .ok (.aload_n 0, 1) := by decide +kernel
theorem d_L_law_401 : decode c_L_law 401 = .ok (.iload 4, 2) := by decide +kernel
theorem d_L_law_403 : decode c_L_law 403 = .ok (.iconst 3, 1) := by decide +kernel
theorem d_L_law_404 : decode c_L_law 404 = .ok (.iadd, 1) := by decide +kernel
theorem d_L_law_405 : decode c_L_law 405 = .ok (.iaload, 1) := by decide +kernel
theorem d_L_law_406 : decode c_L_law 406 = .ok (.aload_n 0, 1) := by decide +kernel
theorem d_L_law_407 : decode c_L_law 407 = .ok (.iload 4, 2) := by decide +kernel
theorem d_L_law_409 : decode c_L_law 409 = .ok (.iconst 4, 1) := by decide +kernel
theorem d_L_law_410 : decode c_L_law 410 = .ok (.iadd, 1) := by decide +kernel
theorem d_L_law_411 : decode c_L_law 411 = .ok (.iaload, 1) := by decide +kernel
theorem d_L_law_412 : decode c_L_law 412 = .ok (.invokevirtual 78, 3) := by decide +kernel
theorem d_L_law_415 : decode c_L_law 415 = .ok (.istore 6, 2) := by decide +kernel
theorem d_L_law_417 : decode c_L_law 417 = .ok (.aload_n 2, 1) := by decide +kernel
theorem d_L_law_418 : decode c_L_law 418 = .ok (.invokevirtual 68, 3) := by decide +kernel
theorem d_L_law_421 : decode c_L_law 421 = .ok (.iload 5, 2) := by decide +kernel
theorem d_L_law_423 : decode c_L_law 423 = .ok (.if_icmp .eq 5, 3) := by decide +kernel
theorem d_L_law_426 : decode c_L_law 426 = .ok (.iconst 0, 1) := by decide +kernel
theorem d_L_law_427 : decode c_L_law 427 = .ok (.ireturn, 1) := by decide +kernel
theorem d_L_law_428 : decode c_L_law 428 = .ok (.iload 5, 2) := by decide +kernel
theorem d_L_law_430 : decode c_L_law 430 = .ok (.ifCond .ne 15, 3) := by decide +kernel
theorem d_L_law_433 : decode c_L_law 433 = .ok (.aload_n 3, 1) := by decide +kernel
theorem d_L_law_434 : decode c_L_law 434 = .ok (.iconst 0, 1) := by decide +kernel
theorem d_L_law_435 : decode c_L_law 435 = .ok (.laload, 1) := by decide +kernel
theorem d_L_law_436 : decode c_L_law 436 = .ok (.iload 6, 2) := by decide +kernel
theorem d_L_law_438 : decode c_L_law 438 = .ok (.i2l, 1) := by decide +kernel
theorem d_L_law_439 : decode c_L_law 439 = .ok (.lcmp, 1) := by decide +kernel
theorem d_L_law_440 : decode c_L_law 440 = .ok (.ifCond .eq 5, 3) := by decide +kernel
theorem d_L_law_443 : decode c_L_law 443 = .ok (.iconst 0, 1) := by decide +kernel
theorem d_L_law_444 : decode c_L_law 444 = .ok (.ireturn, 1) := by decide +kernel
theorem d_L_law_445 : decode c_L_law 445 = .ok (.goto 221, 3) := by decide +kernel
theorem d_L_law_448 : decode c_L_law 448 = .ok (.aload_n 1, 1) := by decide +kernel
theorem d_L_law_449 : decode c_L_law 449 = .ok (.aload_n 0, 1) := by decide +kernel
theorem d_L_law_450 : decode c_L_law 450 = .ok (.iload 4, 2) := by decide +kernel
theorem d_L_law_452 : decode c_L_law 452 = .ok (.iconst 1, 1) := by decide +kernel
theorem d_L_law_453 : decode c_L_law 453 = .ok (.iadd, 1) := by decide +kernel
theorem d_L_law_454 : decode c_L_law 454 = .ok (.iaload, 1) := by decide +kernel
theorem d_L_law_455 : decode c_L_law 455 = .ok (.aload_n 0, 1) := by decide +kernel
theorem d_L_law_456 : decode c_L_law 456 = .ok (.iload 4, 2) := by decide +kernel
theorem d_L_law_458 : decode c_L_law 458 = .ok (.iconst 2, 1) := by decide +kernel
theorem d_L_law_459 : decode c_L_law 459 = .ok (.iadd, 1) := by decide +kernel
theorem d_L_law_460 : decode c_L_law 460 = .ok (.iaload, 1) := by decide +kernel
theorem d_L_law_461 : decode c_L_law 461 = .ok (.aload_n 3, 1) := by decide +kernel
theorem d_L_law_462 : decode c_L_law 462 = .ok (.invokestatic 79, 3) := by decide +kernel
theorem d_L_law_465 : decode c_L_law 465 = .ok (.istore 5, 2) := by decide +kernel
theorem d_L_law_467 : decode c_L_law 467 = .ok (.aload_n 2, 1) := by decide +kernel
theorem d_L_law_468 : decode c_L_law 468 = .ok (.aload_n 0, 1) := by decide +kernel
theorem d_L_law_469 : decode c_L_law 469 = .ok (.iload 4, 2) := by decide +kernel
theorem d_L_law_471 : decode c_L_law 471 = .ok (.iconst 1, 1) := by decide +kernel
theorem d_L_law_472 : decode c_L_law 472 = .ok (.iadd, 1) := by decide +kernel
theorem d_L_law_473 : decode c_L_law 473 = .ok (.iaload, 1) := by decide +kernel
theorem d_L_law_474 : decode c_L_law 474 = .ok (.aload_n 0, 1) := by decide +kernel
theorem d_L_law_475 : decode c_L_law 475 = .ok (.iload 4, 2) := by decide +kernel
theorem d_L_law_477 : decode c_L_law 477 = .ok (.iconst 2, 1) := by decide +kernel
theorem d_L_law_478 : decode c_L_law 478 = .ok (.iadd, 1) := by decide +kernel
theorem d_L_law_479 : decode c_L_law 479 = .ok (.iaload, 1) := by decide +kernel
theorem d_L_law_480 : decode c_L_law 480 = .ok (.invokevirtual 81, 3) := by decide +kernel
theorem d_L_law_483 : decode c_L_law 483 = .ok (.istore 6, 2) := by decide +kernel
theorem d_L_law_485 : decode c_L_law 485 = .ok (.aload_n 2, 1) := by decide +kernel
theorem d_L_law_486 : decode c_L_law 486 = .ok (.invokevirtual 68, 3) := by decide +kernel
theorem d_L_law_489 : decode c_L_law 489 = .ok (.iload 5, 2) := by decide +kernel
theorem d_L_law_491 : decode c_L_law 491 = .ok (.if_icmp .eq 5, 3) := by decide +kernel
theorem d_L_law_494 : decode c_L_law 494 = .ok (.iconst 0, 1) := by decide +kernel
theorem d_L_law_495 : decode c_L_law 495 = .ok (.ireturn, 1) := by decide +kernel
theorem d_L_law_496 : decode c_L_law 496 = .ok (.iload 5, 2) := by decide +kernel
theorem d_L_law_498 : decode c_L_law 498 = .ok (.ifCond .ne 15, 3) := by decide +kernel
theorem d_L_law_501 : decode c_L_law 501 = .ok (.aload_n 3, 1) := by decide +kernel
theorem d_L_law_502 : decode c_L_law 502 = .ok (.iconst 0, 1) := by decide +kernel
theorem d_L_law_503 : decode c_L_law 503 = .ok (.laload, 1) := by decide +kernel
theorem d_L_law_504 : decode c_L_law 504 = .ok (.iload 6, 2) := by decide +kernel
theorem d_L_law_506 : decode c_L_law 506 = .ok (.i2l, 1) := by decide +kernel
theorem d_L_law_507 : decode c_L_law 507 = .ok (.lcmp, 1) := by decide +kernel
theorem d_L_law_508 : decode c_L_law 508 = .ok (.ifCond .eq 5, 3) := by decide +kernel
theorem d_L_law_511 : decode c_L_law 511 = .ok (.iconst 0, 1) := by decide +kernel
theorem d_L_law_512 : decode c_L_law 512 = .ok (.ireturn, 1) := by decide +kernel
theorem d_L_law_513 : decode c_L_law 513 = .ok (.goto 153, 3) := by decide +kernel
theorem d_L_law_516 : decode c_L_law 516 = .ok (.aload_n 1, 1) := by decide +kernel
theorem d_L_law_517 : decode c_L_law 517 = .ok (.aload_n 0, 1) := by decide +kernel
theorem d_L_law_518 : decode c_L_law 518 = .ok (.iload 4, 2) := by decide +kernel
theorem d_L_law_520 : decode c_L_law 520 = .ok (.iconst 1, 1) := by decide +kernel
theorem d_L_law_521 : decode c_L_law 521 = .ok (.iadd, 1) := by decide +kernel
theorem d_L_law_522 : decode c_L_law 522 = .ok (.iaload, 1) := by decide +kernel
theorem d_L_law_523 : decode c_L_law 523 = .ok (.aload_n 0, 1) := by decide +kernel
theorem d_L_law_524 : decode c_L_law 524 = .ok (.iload 4, 2) := by decide +kernel
theorem d_L_law_526 : decode c_L_law 526 = .ok (.iconst 2, 1) := by decide +kernel
theorem d_L_law_527 : decode c_L_law 527 = .ok (.iadd, 1) := by decide +kernel
theorem d_L_law_528 : decode c_L_law 528 = .ok (.iaload, 1) := by decide +kernel
theorem d_L_law_529 : decode c_L_law 529 = .ok (.aload_n 3, 1) := by decide +kernel
theorem d_L_law_530 : decode c_L_law 530 = .ok (.invokestatic 82, 3) := by decide +kernel
theorem d_L_law_533 : decode c_L_law 533 = .ok (.istore 5, 2) := by decide +kernel
theorem d_L_law_535 : decode c_L_law 535 = .ok (.aload_n 2, 1) := by decide +kernel
theorem d_L_law_536 : decode c_L_law 536 = .ok (.aload_n 0, 1) := by decide +kernel
theorem d_L_law_537 : decode c_L_law 537 = .ok (.iload 4, 2) := by decide +kernel
theorem d_L_law_539 : decode c_L_law 539 = .ok (.iconst 1, 1) := by decide +kernel
theorem d_L_law_540 : decode c_L_law 540 = .ok (.iadd, 1) := by decide +kernel
theorem d_L_law_541 : decode c_L_law 541 = .ok (.iaload, 1) := by decide +kernel
theorem d_L_law_542 : decode c_L_law 542 = .ok (.aload_n 0, 1) := by decide +kernel
theorem d_L_law_543 : decode c_L_law 543 = .ok (.iload 4, 2) := by decide +kernel
theorem d_L_law_545 : decode c_L_law 545 = .ok (.iconst 2, 1) := by decide +kernel
theorem d_L_law_546 : decode c_L_law 546 = .ok (.iadd, 1) := by decide +kernel
theorem d_L_law_547 : decode c_L_law 547 = .ok (.iaload, 1) := by decide +kernel
theorem d_L_law_548 : decode c_L_law 548 = .ok (.invokevirtual 84, 3) := by decide +kernel
theorem d_L_law_551 : decode c_L_law 551 = .ok (.istore 6, 2) := by decide +kernel
theorem d_L_law_553 : decode c_L_law 553 = .ok (.aload_n 2, 1) := by decide +kernel
theorem d_L_law_554 : decode c_L_law 554 = .ok (.invokevirtual 68, 3) := by decide +kernel
theorem d_L_law_557 : decode c_L_law 557 = .ok (.iload 5, 2) := by decide +kernel
theorem d_L_law_559 : decode c_L_law 559 = .ok (.if_icmp .eq 5, 3) := by decide +kernel
theorem d_L_law_562 : decode c_L_law 562 = .ok (.iconst 0, 1) := by decide +kernel
theorem d_L_law_563 : decode c_L_law 563 = .ok (.ireturn, 1) := by decide +kernel
theorem d_L_law_564 : decode c_L_law 564 = .ok (.iload 5, 2) := by decide +kernel
theorem d_L_law_566 : decode c_L_law 566 = .ok (.ifCond .ne 15, 3) := by decide +kernel
theorem d_L_law_569 : decode c_L_law 569 = .ok (.aload_n 3, 1) := by decide +kernel
theorem d_L_law_570 : decode c_L_law 570 = .ok (.iconst 0, 1) := by decide +kernel
theorem d_L_law_571 : decode c_L_law 571 = .ok (.laload, 1) := by decide +kernel
theorem d_L_law_572 : decode c_L_law 572 = .ok (.iload 6, 2) := by decide +kernel
theorem d_L_law_574 : decode c_L_law 574 = .ok (.i2l, 1) := by decide +kernel
theorem d_L_law_575 : decode c_L_law 575 = .ok (.lcmp, 1) := by decide +kernel
theorem d_L_law_576 : decode c_L_law 576 = .ok (.ifCond .eq 5, 3) := by decide +kernel
theorem d_L_law_579 : decode c_L_law 579 = .ok (.iconst 0, 1) := by decide +kernel
theorem d_L_law_580 : decode c_L_law 580 = .ok (.ireturn, 1) := by decide +kernel
theorem d_L_law_581 : decode c_L_law 581 = .ok (.goto 85, 3) := by decide +kernel
theorem d_L_law_584 : decode c_L_law 584 = .ok (.aload_n 1, 1) := by decide +kernel
theorem d_L_law_585 : decode c_L_law 585 = .ok (.aload_n 3, 1) := by decide +kernel
theorem d_L_law_586 : decode c_L_law 586 = .ok (.invokestatic 85, 3) := by decide +kernel
theorem d_L_law_589 : decode c_L_law 589 = .ok (.istore 5, 2) := by decide +kernel
theorem d_L_law_591 : decode c_L_law 591 = .ok (.aload_n 2, 1) := by decide +kernel
theorem d_L_law_592 : decode c_L_law 592 = .ok (.invokevirtual 88, 3) := by decide +kernel
theorem d_L_law_595 : decode c_L_law 595 = .ok (.istore 6, 2) := by decide +kernel
theorem d_L_law_597 : decode c_L_law 597 = .ok (.aload_n 2, 1) := by decide +kernel
theorem d_L_law_598 : decode c_L_law 598 = .ok (.invokevirtual 68, 3) := by decide +kernel
theorem d_L_law_601 : decode c_L_law 601 = .ok (.iload 5, 2) := by decide +kernel
theorem d_L_law_603 : decode c_L_law 603 = .ok (.if_icmp .eq 5, 3) := by decide +kernel
theorem d_L_law_606 : decode c_L_law 606 = .ok (.iconst 0, 1) := by decide +kernel
theorem d_L_law_607 : decode c_L_law 607 = .ok (.ireturn, 1) := by decide +kernel
theorem d_L_law_608 : decode c_L_law 608 = .ok (.iload 5, 2) := by decide +kernel
theorem d_L_law_610 : decode c_L_law 610 = .ok (.ifCond .ne 15, 3) := by decide +kernel
theorem d_L_law_613 : decode c_L_law 613 = .ok (.aload_n 3, 1) := by decide +kernel
theorem d_L_law_614 : decode c_L_law 614 = .ok (.iconst 0, 1) := by decide +kernel
theorem d_L_law_615 : decode c_L_law 615 = .ok (.laload, 1) := by decide +kernel
theorem d_L_law_616 : decode c_L_law 616 = .ok (.iload 6, 2) := by decide +kernel
theorem d_L_law_618 : decode c_L_law 618 = .ok (.i2l, 1) := by decide +kernel
theorem d_L_law_619 : decode c_L_law 619 = .ok (.lcmp, 1) := by decide +kernel
theorem d_L_law_620 : decode c_L_law 620 = .ok (.ifCond .eq 5, 3) := by decide +kernel
theorem d_L_law_623 : decode c_L_law 623 = .ok (.iconst 0, 1) := by decide +kernel
theorem d_L_law_624 : decode c_L_law 624 = .ok (.ireturn, 1) := by decide +kernel
theorem d_L_law_625 : decode c_L_law 625 = .ok (.goto 41, 3) := by decide +kernel
theorem d_L_law_628 : decode c_L_law 628 = .ok (.aload_n 1, 1) := by decide +kernel
theorem d_L_law_629 : decode c_L_law 629 = .ok (.aload_n 0, 1) := by decide +kernel
theorem d_L_law_630 : decode c_L_law 630 = .ok (.iload 4, 2) := by decide +kernel
theorem d_L_law_632 : decode c_L_law 632 = .ok (.iconst 1, 1) := by decide +kernel
theorem d_L_law_633 : decode c_L_law 633 = .ok (.iadd, 1) := by decide +kernel
theorem d_L_law_634 : decode c_L_law 634 = .ok (.iaload, 1) := by decide +kernel
theorem d_L_law_635 : decode c_L_law 635 = .ok (.invokevirtual 89, 3) := by decide +kernel
theorem d_L_law_638 : decode c_L_law 638 = .ok (.aload_n 2, 1) := by decide +kernel
theorem d_L_law_639 : decode c_L_law 639 = .ok (.aload_n 0, 1) := by decide +kernel
theorem d_L_law_640 : decode c_L_law 640 = .ok (.iload 4, 2) := by decide +kernel
theorem d_L_law_642 : decode c_L_law 642 = .ok (.iconst 1, 1) := by decide +kernel
theorem d_L_law_643 : decode c_L_law 643 = .ok (.iadd, 1) := by decide +kernel
theorem d_L_law_644 : decode c_L_law 644 = .ok (.iaload, 1) := by decide +kernel
theorem d_L_law_645 : decode c_L_law 645 = .ok (.invokevirtual 93, 3) := by decide +kernel
theorem d_L_law_648 : decode c_L_law 648 = .ok (.if_icmp .eq 18, 3) := by decide +kernel
theorem d_L_law_651 : decode c_L_law 651 = .ok (.iconst 0, 1) := by decide +kernel
theorem d_L_law_652 : decode c_L_law 652 = .ok (.ireturn, 1) := by decide +kernel
theorem d_L_law_653 : decode c_L_law 653 = .ok (.aload_n 1, 1) := by decide +kernel
theorem d_L_law_654 : decode c_L_law 654 = .ok (.invokevirtual 94, 3) := by decide +kernel
theorem d_L_law_657 : decode c_L_law 657 = .ok (.aload_n 2, 1) := by decide +kernel
theorem d_L_law_658 : decode c_L_law 658 = .ok (.invokevirtual 97, 3) := by decide +kernel
theorem d_L_law_661 : decode c_L_law 661 = .ok (.if_icmp .eq 5, 3) := by decide +kernel
theorem d_L_law_664 : decode c_L_law 664 = .ok (.iconst 0, 1) := by decide +kernel
theorem d_L_law_665 : decode c_L_law 665 = .ok (.ireturn, 1) := by decide +kernel
theorem d_L_law_666 : decode c_L_law 666 = .ok (.iinc 4 5, 3) := by decide +kernel
theorem d_L_law_669 : decode c_L_law 669 = .ok (.goto (-646), 3) := by decide +kernel
theorem d_L_law_672 : decode c_L_law 672 = .ok (.iconst 1, 1) := by decide +kernel
theorem d_L_law_673 : decode c_L_law 673 = .ok (.ireturn, 1) := by decide +kernel
