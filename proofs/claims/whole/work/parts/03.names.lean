theorem dX0_init_0 : decode cX0_init 0 = .ok (.aload_n 0, 1) := by decide +kernel
theorem dX0_init_1 : decode cX0_init 1 = .ok (.invokespecial 3, 3) := by decide +kernel
theorem dX0_init_4 : decode cX0_init 4 = .ok (.aload_n 0, 1) := by decide +kernel
theorem dX0_init_5 : decode cX0_init 5 = .ok (.bipush 24, 2) := by decide +kernel
theorem dX0_init_7 : decode cX0_init 7 = .ok (.newarray .int, 2) := by decide +kernel
theorem dX0_init_9 : decode cX0_init 9 = .ok (.putfield 9, 3) := by decide +kernel
theorem dX0_init_12 : decode cX0_init 12 = .ok (.aload_n 0, 1) := by decide +kernel
theorem dX0_init_13 : decode cX0_init 13 = .ok (.iconst 0, 1) := by decide +kernel
theorem dX0_init_14 : decode cX0_init 14 = .ok (.putfield 15, 3) := by decide +kernel
theorem dX0_init_17 : decode cX0_init 17 = .ok (.return_, 1) := by decide +kernel
set_option maxRecDepth 20000 in
theorem gw_wsX0_find : wsX0_find.all goodWord = true := by decide +kernel
set_option maxRecDepth 20000 in
theorem ggX0_answer_X0_find : GoodIn wsX0_answer wsX0_find := goodIn_sub (List.forall_mem_cons.mpr ⟨(List.mem_cons_of_mem _ (List.mem_append_left _ (List.mem_of_getElem? (i := 3) rfl))), fun _ h => absurd h List.not_mem_nil⟩) gw_wsX0_find
set_option maxRecDepth 20000 in
theorem gX0_answer_X0_find : GoodIn wsX0_answer (va_wsS RX0 19 yX0_find wsX0_find) := goodIn_app (goodIn_of _ (by decide +kernel)) ggX0_answer_X0_find
set_option maxRecDepth 20000 in
theorem gw_wsX0_keep : wsX0_keep.all goodWord = true := by decide +kernel
set_option maxRecDepth 20000 in
theorem ggX0_answer_X0_keep : GoodIn wsX0_answer wsX0_keep := goodIn_sub (List.forall_mem_cons.mpr ⟨(List.mem_cons_of_mem _ (List.mem_append_left _ (List.mem_of_getElem? (i := 7) rfl))), List.forall_mem_append.mpr ⟨List.forall_mem_cons.mpr ⟨(List.mem_cons_of_mem _ (List.mem_append_left _ (List.mem_of_getElem? (i := 8) rfl))), List.forall_mem_cons.mpr ⟨(List.mem_cons_of_mem _ (List.mem_append_left _ (List.mem_of_getElem? (i := 9) rfl))), fun _ h => absurd h List.not_mem_nil⟩⟩, fun _ h => (List.mem_cons_of_mem _ (List.mem_append_right _ h))⟩⟩) gw_wsX0_keep
set_option maxRecDepth 20000 in
theorem gX0_answer_X0_keep : GoodIn wsX0_answer (wsV RX0 23 RX0 yX0_keep wsX0_keep) := goodIn_app (goodIn_of _ (by decide +kernel)) ggX0_answer_X0_keep
set_option maxRecDepth 20000 in
theorem gw_wsX0_aboveBody : wsX0_aboveBody.all goodWord = true := by decide +kernel
set_option maxRecDepth 20000 in
theorem ggX0_answer_X0_aboveBody : GoodIn wsX0_answer wsX0_aboveBody := goodIn_sub (List.forall_mem_cons.mpr ⟨(List.mem_cons_of_mem _ (List.mem_append_left _ (List.mem_of_getElem? (i := 12) rfl))), fun _ h => absurd h List.not_mem_nil⟩) gw_wsX0_aboveBody
set_option maxRecDepth 20000 in
theorem gX0_answer_X0_aboveBody : GoodIn wsX0_answer (va_wsS RX0 27 yX0_aboveBody wsX0_aboveBody) := goodIn_app (goodIn_of _ (by decide +kernel)) ggX0_answer_X0_aboveBody
set_option maxRecDepth 20000 in
theorem gw_wsX0_answer : wsX0_answer.all goodWord = true := by decide +kernel
set_option maxRecDepth 20000 in
theorem ggX0_answer_X0_answer : GoodIn wsX0_answer wsX0_answer := goodIn_sub (List.forall_mem_cons.mpr ⟨List.mem_cons_self, List.forall_mem_append.mpr ⟨List.forall_mem_cons.mpr ⟨(List.mem_cons_of_mem _ (List.mem_append_left _ (List.mem_of_getElem? (i := 0) rfl))), List.forall_mem_cons.mpr ⟨(List.mem_cons_of_mem _ (List.mem_append_left _ (List.mem_of_getElem? (i := 1) rfl))), List.forall_mem_cons.mpr ⟨(List.mem_cons_of_mem _ (List.mem_append_left _ (List.mem_of_getElem? (i := 2) rfl))), List.forall_mem_cons.mpr ⟨(List.mem_cons_of_mem _ (List.mem_append_left _ (List.mem_of_getElem? (i := 3) rfl))), List.forall_mem_cons.mpr ⟨(List.mem_cons_of_mem _ (List.mem_append_left _ (List.mem_of_getElem? (i := 4) rfl))), List.forall_mem_cons.mpr ⟨(List.mem_cons_of_mem _ (List.mem_append_left _ (List.mem_of_getElem? (i := 5) rfl))), List.forall_mem_cons.mpr ⟨(List.mem_cons_of_mem _ (List.mem_append_left _ (List.mem_of_getElem? (i := 6) rfl))), List.forall_mem_cons.mpr ⟨(List.mem_cons_of_mem _ (List.mem_append_left _ (List.mem_of_getElem? (i := 7) rfl))), List.forall_mem_cons.mpr ⟨(List.mem_cons_of_mem _ (List.mem_append_left _ (List.mem_of_getElem? (i := 8) rfl))), List.forall_mem_cons.mpr ⟨(List.mem_cons_of_mem _ (List.mem_append_left _ (List.mem_of_getElem? (i := 9) rfl))), List.forall_mem_cons.mpr ⟨(List.mem_cons_of_mem _ (List.mem_append_left _ (List.mem_of_getElem? (i := 10) rfl))), List.forall_mem_cons.mpr ⟨(List.mem_cons_of_mem _ (List.mem_append_left _ (List.mem_of_getElem? (i := 11) rfl))), List.forall_mem_cons.mpr ⟨(List.mem_cons_of_mem _ (List.mem_append_left _ (List.mem_of_getElem? (i := 12) rfl))), List.forall_mem_cons.mpr ⟨(List.mem_cons_of_mem _ (List.mem_append_left _ (List.mem_of_getElem? (i := 13) rfl))), List.forall_mem_cons.mpr ⟨(List.mem_cons_of_mem _ (List.mem_append_left _ (List.mem_of_getElem? (i := 14) rfl))), fun _ h => absurd h List.not_mem_nil⟩⟩⟩⟩⟩⟩⟩⟩⟩⟩⟩⟩⟩⟩⟩, fun _ h => (List.mem_cons_of_mem _ (List.mem_append_right _ h))⟩⟩) gw_wsX0_answer
set_option maxRecDepth 20000 in
theorem gX0_answer_X0_answer : GoodIn wsX0_answer (va_wsS RX0 31 yX0_answer wsX0_answer) := goodIn_app (goodIn_of _ (by decide +kernel)) ggX0_answer_X0_answer
theorem dX0_answer_0 : decode cX0_answer 0 = .ok (.iload_n 2, 1) := by decide +kernel
theorem dX0_answer_1 : decode cX0_answer 1 = .ok (.iload_n 3, 1) := by decide +kernel
theorem dX0_answer_2 : decode cX0_answer 2 = .ok (.invokestatic 19, 3) := by decide +kernel
theorem dX0_answer_5 : decode cX0_answer 5 = .ok (.istore 6, 2) := by decide +kernel
theorem dX0_answer_7 : decode cX0_answer 7 = .ok (.iload 6, 2) := by decide +kernel
theorem dX0_answer_9 : decode cX0_answer 9 = .ok (.ifCond .eq 10, 3) := by decide +kernel
theorem dX0_answer_12 : decode cX0_answer 12 = .ok (.iload 5, 2) := by decide +kernel
theorem dX0_answer_14 : decode cX0_answer 14 = .ok (.bipush 20, 2) := by decide +kernel
theorem dX0_answer_16 : decode cX0_answer 16 = .ok (.if_icmp .le 5, 3) := by decide +kernel
theorem dX0_answer_19 : decode cX0_answer 19 = .ok (.iconst 0, 1) := by decide +kernel
theorem dX0_answer_20 : decode cX0_answer 20 = .ok (.ireturn, 1) := by decide +kernel
theorem dX0_answer_21 : decode cX0_answer 21 = .ok (.aload_n 0, 1) := by decide +kernel
theorem dX0_answer_22 : decode cX0_answer 22 = .ok (.iload 6, 2) := by decide +kernel
theorem dX0_answer_24 : decode cX0_answer 24 = .ok (.invokevirtual 23, 3) := by decide +kernel
theorem dX0_answer_27 : decode cX0_answer 27 = .ok (.iload 6, 2) := by decide +kernel
theorem dX0_answer_29 : decode cX0_answer 29 = .ok (.invokestatic 27, 3) := by decide +kernel
theorem dX0_answer_32 : decode cX0_answer 32 = .ok (.istore 7, 2) := by decide +kernel
theorem dX0_answer_34 : decode cX0_answer 34 = .ok (.iload 6, 2) := by decide +kernel
theorem dX0_answer_36 : decode cX0_answer 36 = .ok (.lookupswitch 208 #[(10, 76), (11, 81), (12, 97), (20, 113), (30, 130), (40, 146), (41, 163), (50, 180)], 76) := by decide +kernel
theorem dX0_answer_112 : decode cX0_answer 112 = .ok (.iload 4, 2) := by decide +kernel
theorem dX0_answer_114 : decode cX0_answer 114 = .ok (.iload_n 1, 1) := by decide +kernel
theorem dX0_answer_115 : decode cX0_answer 115 = .ok (.iadd, 1) := by decide +kernel
theorem dX0_answer_116 : decode cX0_answer 116 = .ok (.ireturn, 1) := by decide +kernel
theorem dX0_answer_117 : decode cX0_answer 117 = .ok (.aload_n 0, 1) := by decide +kernel
theorem dX0_answer_118 : decode cX0_answer 118 = .ok (.iload_n 1, 1) := by decide +kernel
theorem dX0_answer_119 : decode cX0_answer 119 = .ok (.iload_n 1, 1) := by decide +kernel
theorem dX0_answer_120 : decode cX0_answer 120 = .ok (.iconst 0, 1) := by decide +kernel
theorem dX0_answer_121 : decode cX0_answer 121 = .ok (.iload 4, 2) := by decide +kernel
theorem dX0_answer_123 : decode cX0_answer 123 = .ok (.iload 5, 2) := by decide +kernel
theorem dX0_answer_125 : decode cX0_answer 125 = .ok (.iconst 1, 1) := by decide +kernel
theorem dX0_answer_126 : decode cX0_answer 126 = .ok (.iadd, 1) := by decide +kernel
theorem dX0_answer_127 : decode cX0_answer 127 = .ok (.invokestatic 31, 3) := by decide +kernel
theorem dX0_answer_130 : decode cX0_answer 130 = .ok (.iconst 2, 1) := by decide +kernel
theorem dX0_answer_131 : decode cX0_answer 131 = .ok (.imul, 1) := by decide +kernel
theorem dX0_answer_132 : decode cX0_answer 132 = .ok (.ireturn, 1) := by decide +kernel
theorem dX0_answer_133 : decode cX0_answer 133 = .ok (.aload_n 0, 1) := by decide +kernel
theorem dX0_answer_134 : decode cX0_answer 134 = .ok (.iload_n 1, 1) := by decide +kernel
theorem dX0_answer_135 : decode cX0_answer 135 = .ok (.iload_n 1, 1) := by decide +kernel
theorem dX0_answer_136 : decode cX0_answer 136 = .ok (.iconst 1, 1) := by decide +kernel
theorem dX0_answer_137 : decode cX0_answer 137 = .ok (.iload 4, 2) := by decide +kernel
theorem dX0_answer_139 : decode cX0_answer 139 = .ok (.iload 5, 2) := by decide +kernel
theorem dX0_answer_141 : decode cX0_answer 141 = .ok (.iconst 1, 1) := by decide +kernel
theorem dX0_answer_142 : decode cX0_answer 142 = .ok (.iadd, 1) := by decide +kernel
theorem dX0_answer_143 : decode cX0_answer 143 = .ok (.invokestatic 31, 3) := by decide +kernel
theorem dX0_answer_146 : decode cX0_answer 146 = .ok (.iload_n 1, 1) := by decide +kernel
theorem dX0_answer_147 : decode cX0_answer 147 = .ok (.isub, 1) := by decide +kernel
theorem dX0_answer_148 : decode cX0_answer 148 = .ok (.ireturn, 1) := by decide +kernel
theorem dX0_answer_149 : decode cX0_answer 149 = .ok (.aload_n 0, 1) := by decide +kernel
theorem dX0_answer_150 : decode cX0_answer 150 = .ok (.iload_n 1, 1) := by decide +kernel
theorem dX0_answer_151 : decode cX0_answer 151 = .ok (.iload 7, 2) := by decide +kernel
theorem dX0_answer_153 : decode cX0_answer 153 = .ok (.iconst 1, 1) := by decide +kernel
theorem dX0_answer_154 : decode cX0_answer 154 = .ok (.iload 4, 2) := by decide +kernel
theorem dX0_answer_156 : decode cX0_answer 156 = .ok (.iload 5, 2) := by decide +kernel
theorem dX0_answer_158 : decode cX0_answer 158 = .ok (.iconst 1, 1) := by decide +kernel
theorem dX0_answer_159 : decode cX0_answer 159 = .ok (.iadd, 1) := by decide +kernel
theorem dX0_answer_160 : decode cX0_answer 160 = .ok (.invokestatic 31, 3) := by decide +kernel
theorem dX0_answer_163 : decode cX0_answer 163 = .ok (.iconst 5, 1) := by decide +kernel
theorem dX0_answer_164 : decode cX0_answer 164 = .ok (.ixor, 1) := by decide +kernel
theorem dX0_answer_165 : decode cX0_answer 165 = .ok (.ireturn, 1) := by decide +kernel
theorem dX0_answer_166 : decode cX0_answer 166 = .ok (.aload_n 0, 1) := by decide +kernel
theorem dX0_answer_167 : decode cX0_answer 167 = .ok (.iload_n 1, 1) := by decide +kernel
theorem dX0_answer_168 : decode cX0_answer 168 = .ok (.iload 7, 2) := by decide +kernel
theorem dX0_answer_170 : decode cX0_answer 170 = .ok (.iconst 0, 1) := by decide +kernel
theorem dX0_answer_171 : decode cX0_answer 171 = .ok (.iload 4, 2) := by decide +kernel
theorem dX0_answer_173 : decode cX0_answer 173 = .ok (.iload 5, 2) := by decide +kernel
theorem dX0_answer_175 : decode cX0_answer 175 = .ok (.iconst 1, 1) := by decide +kernel
theorem dX0_answer_176 : decode cX0_answer 176 = .ok (.iadd, 1) := by decide +kernel
theorem dX0_answer_177 : decode cX0_answer 177 = .ok (.invokestatic 31, 3) := by decide +kernel
theorem dX0_answer_180 : decode cX0_answer 180 = .ok (.ineg, 1) := by decide +kernel
theorem dX0_answer_181 : decode cX0_answer 181 = .ok (.ireturn, 1) := by decide +kernel
theorem dX0_answer_182 : decode cX0_answer 182 = .ok (.aload_n 0, 1) := by decide +kernel
theorem dX0_answer_183 : decode cX0_answer 183 = .ok (.iload_n 1, 1) := by decide +kernel
theorem dX0_answer_184 : decode cX0_answer 184 = .ok (.iload 7, 2) := by decide +kernel
theorem dX0_answer_186 : decode cX0_answer 186 = .ok (.iconst 2, 1) := by decide +kernel
theorem dX0_answer_187 : decode cX0_answer 187 = .ok (.iload 4, 2) := by decide +kernel
theorem dX0_answer_189 : decode cX0_answer 189 = .ok (.iconst 1, 1) := by decide +kernel
theorem dX0_answer_190 : decode cX0_answer 190 = .ok (.iadd, 1) := by decide +kernel
theorem dX0_answer_191 : decode cX0_answer 191 = .ok (.iload 5, 2) := by decide +kernel
theorem dX0_answer_193 : decode cX0_answer 193 = .ok (.iconst 1, 1) := by decide +kernel
theorem dX0_answer_194 : decode cX0_answer 194 = .ok (.iadd, 1) := by decide +kernel
theorem dX0_answer_195 : decode cX0_answer 195 = .ok (.invokestatic 31, 3) := by decide +kernel
theorem dX0_answer_198 : decode cX0_answer 198 = .ok (.ireturn, 1) := by decide +kernel
theorem dX0_answer_199 : decode cX0_answer 199 = .ok (.aload_n 0, 1) := by decide +kernel
theorem dX0_answer_200 : decode cX0_answer 200 = .ok (.iload_n 1, 1) := by decide +kernel
theorem dX0_answer_201 : decode cX0_answer 201 = .ok (.iload 7, 2) := by decide +kernel
theorem dX0_answer_203 : decode cX0_answer 203 = .ok (.iconst 0, 1) := by decide +kernel
theorem dX0_answer_204 : decode cX0_answer 204 = .ok (.iload 4, 2) := by decide +kernel
theorem dX0_answer_206 : decode cX0_answer 206 = .ok (.iload 5, 2) := by decide +kernel
theorem dX0_answer_208 : decode cX0_answer 208 = .ok (.iconst 1, 1) := by decide +kernel
theorem dX0_answer_209 : decode cX0_answer 209 = .ok (.iadd, 1) := by decide +kernel
theorem dX0_answer_210 : decode cX0_answer 210 = .ok (.invokestatic 31, 3) := by decide +kernel
theorem dX0_answer_213 : decode cX0_answer 213 = .ok (.iconst 3, 1) := by decide +kernel
theorem dX0_answer_214 : decode cX0_answer 214 = .ok (.imul, 1) := by decide +kernel
theorem dX0_answer_215 : decode cX0_answer 215 = .ok (.ireturn, 1) := by decide +kernel
theorem dX0_answer_216 : decode cX0_answer 216 = .ok (.aload_n 0, 1) := by decide +kernel
theorem dX0_answer_217 : decode cX0_answer 217 = .ok (.iload_n 1, 1) := by decide +kernel
theorem dX0_answer_218 : decode cX0_answer 218 = .ok (.iload 7, 2) := by decide +kernel
theorem dX0_answer_220 : decode cX0_answer 220 = .ok (.iconst 1, 1) := by decide +kernel
theorem dX0_answer_221 : decode cX0_answer 221 = .ok (.iload 4, 2) := by decide +kernel
theorem dX0_answer_223 : decode cX0_answer 223 = .ok (.iload 5, 2) := by decide +kernel
theorem dX0_answer_225 : decode cX0_answer 225 = .ok (.iconst 1, 1) := by decide +kernel
theorem dX0_answer_226 : decode cX0_answer 226 = .ok (.iadd, 1) := by decide +kernel
theorem dX0_answer_227 : decode cX0_answer 227 = .ok (.invokestatic 31, 3) := by decide +kernel
theorem dX0_answer_230 : decode cX0_answer 230 = .ok (.aload_n 0, 1) := by decide +kernel
theorem dX0_answer_231 : decode cX0_answer 231 = .ok (.iload_n 1, 1) := by decide +kernel
theorem dX0_answer_232 : decode cX0_answer 232 = .ok (.iload_n 1, 1) := by decide +kernel
theorem dX0_answer_233 : decode cX0_answer 233 = .ok (.iconst 0, 1) := by decide +kernel
theorem dX0_answer_234 : decode cX0_answer 234 = .ok (.iconst 2, 1) := by decide +kernel
theorem dX0_answer_235 : decode cX0_answer 235 = .ok (.iload 5, 2) := by decide +kernel
theorem dX0_answer_237 : decode cX0_answer 237 = .ok (.iconst 1, 1) := by decide +kernel
theorem dX0_answer_238 : decode cX0_answer 238 = .ok (.iadd, 1) := by decide +kernel
theorem dX0_answer_239 : decode cX0_answer 239 = .ok (.invokestatic 31, 3) := by decide +kernel
theorem dX0_answer_242 : decode cX0_answer 242 = .ok (.iadd, 1) := by decide +kernel
theorem dX0_answer_243 : decode cX0_answer 243 = .ok (.ireturn, 1) := by decide +kernel
theorem dX0_answer_244 : decode cX0_answer 244 = .ok (.iconst 0, 1) := by decide +kernel
theorem dX0_answer_245 : decode cX0_answer 245 = .ok (.ireturn, 1) := by decide +kernel
theorem dX0_find_0 : decode cX0_find 0 = .ok (.iload_n 0, 1) := by decide +kernel
theorem dX0_find_1 : decode cX0_find 1 = .ok (.istore_n 2, 1) := by decide +kernel
theorem dX0_find_2 : decode cX0_find 2 = .ok (.iconst 0, 1) := by decide +kernel
theorem dX0_find_3 : decode cX0_find 3 = .ok (.istore_n 3, 1) := by decide +kernel
theorem dX0_find_4 : decode cX0_find 4 = .ok (.iload_n 3, 1) := by decide +kernel
theorem dX0_find_5 : decode cX0_find 5 = .ok (.iconst 5, 1) := by decide +kernel
theorem dX0_find_6 : decode cX0_find 6 = .ok (.if_icmp .ge 61, 3) := by decide +kernel
theorem dX0_find_9 : decode cX0_find 9 = .ok (.iload_n 2, 1) := by decide +kernel
theorem dX0_find_10 : decode cX0_find 10 = .ok (.ifCond .lt 57, 3) := by decide +kernel
theorem dX0_find_13 : decode cX0_find 13 = .ok (.iload_n 2, 1) := by decide +kernel
theorem dX0_find_14 : decode cX0_find 14 = .ok (.iconst 5, 1) := by decide +kernel
theorem dX0_find_15 : decode cX0_find 15 = .ok (.if_icmp .ge 52, 3) := by decide +kernel
theorem dX0_find_18 : decode cX0_find 18 = .ok (.iconst 3, 1) := by decide +kernel
theorem dX0_find_19 : decode cX0_find 19 = .ok (.iload_n 2, 1) := by decide +kernel
theorem dX0_find_20 : decode cX0_find 20 = .ok (.imul, 1) := by decide +kernel
theorem dX0_find_21 : decode cX0_find 21 = .ok (.iload_n 1, 1) := by decide +kernel
theorem dX0_find_22 : decode cX0_find 22 = .ok (.iadd, 1) := by decide +kernel
theorem dX0_find_23 : decode cX0_find 23 = .ok (.istore 4, 2) := by decide +kernel
theorem dX0_find_25 : decode cX0_find 25 = .ok (.iload 4, 2) := by decide +kernel
theorem dX0_find_27 : decode cX0_find 27 = .ok (.ifCond .lt 28, 3) := by decide +kernel
theorem dX0_find_30 : decode cX0_find 30 = .ok (.iload 4, 2) := by decide +kernel
theorem dX0_find_32 : decode cX0_find 32 = .ok (.getstatic 35, 3) := by decide +kernel
theorem dX0_find_35 : decode cX0_find 35 = .ok (.arraylength, 1) := by decide +kernel
theorem dX0_find_36 : decode cX0_find 36 = .ok (.if_icmp .ge 19, 3) := by decide +kernel
theorem dX0_find_39 : decode cX0_find 39 = .ok (.getstatic 35, 3) := by decide +kernel
theorem dX0_find_42 : decode cX0_find 42 = .ok (.iload 4, 2) := by decide +kernel
theorem dX0_find_44 : decode cX0_find 44 = .ok (.iaload, 1) := by decide +kernel
theorem dX0_find_45 : decode cX0_find 45 = .ok (.ifCond .eq 10, 3) := by decide +kernel
theorem dX0_find_48 : decode cX0_find 48 = .ok (.getstatic 35, 3) := by decide +kernel
theorem dX0_find_51 : decode cX0_find 51 = .ok (.iload 4, 2) := by decide +kernel
theorem dX0_find_53 : decode cX0_find 53 = .ok (.iaload, 1) := by decide +kernel
theorem dX0_find_54 : decode cX0_find 54 = .ok (.ireturn, 1) := by decide +kernel
theorem dX0_find_55 : decode cX0_find 55 = .ok (.getstatic 38, 3) := by decide +kernel
theorem dX0_find_58 : decode cX0_find 58 = .ok (.iload_n 2, 1) := by decide +kernel
theorem dX0_find_59 : decode cX0_find 59 = .ok (.iaload, 1) := by decide +kernel
theorem dX0_find_60 : decode cX0_find 60 = .ok (.istore_n 2, 1) := by decide +kernel
theorem dX0_find_61 : decode cX0_find 61 = .ok (.iinc 3 1, 3) := by decide +kernel
theorem dX0_find_64 : decode cX0_find 64 = .ok (.goto (-60), 3) := by decide +kernel
theorem dX0_find_67 : decode cX0_find 67 = .ok (.iconst 0, 1) := by decide +kernel
theorem dX0_find_68 : decode cX0_find 68 = .ok (.ireturn, 1) := by decide +kernel
theorem dX0_aboveBody_0 : decode cX0_aboveBody 0 = .ok (.iload_n 0, 1) := by decide +kernel
theorem dX0_aboveBody_1 : decode cX0_aboveBody 1 = .ok (.bipush 10, 2) := by decide +kernel
theorem dX0_aboveBody_3 : decode cX0_aboveBody 3 = .ok (.idiv, 1) := by decide +kernel
theorem dX0_aboveBody_4 : decode cX0_aboveBody 4 = .ok (.iconst 1, 1) := by decide +kernel
theorem dX0_aboveBody_5 : decode cX0_aboveBody 5 = .ok (.isub, 1) := by decide +kernel
theorem dX0_aboveBody_6 : decode cX0_aboveBody 6 = .ok (.istore_n 1, 1) := by decide +kernel
theorem dX0_aboveBody_7 : decode cX0_aboveBody 7 = .ok (.iload_n 1, 1) := by decide +kernel
theorem dX0_aboveBody_8 : decode cX0_aboveBody 8 = .ok (.ifCond .lt 8, 3) := by decide +kernel
theorem dX0_aboveBody_11 : decode cX0_aboveBody 11 = .ok (.iload_n 1, 1) := by decide +kernel
theorem dX0_aboveBody_12 : decode cX0_aboveBody 12 = .ok (.iconst 5, 1) := by decide +kernel
theorem dX0_aboveBody_13 : decode cX0_aboveBody 13 = .ok (.if_icmp .lt 7, 3) := by decide +kernel
theorem dX0_aboveBody_16 : decode cX0_aboveBody 16 = .ok (.iconst (-1), 1) := by decide +kernel
theorem dX0_aboveBody_17 : decode cX0_aboveBody 17 = .ok (.goto 8, 3) := by decide +kernel
theorem dX0_aboveBody_20 : decode cX0_aboveBody 20 = .ok (.getstatic 38, 3) := by decide +kernel
theorem dX0_aboveBody_23 : decode cX0_aboveBody 23 = .ok (.iload_n 1, 1) := by decide +kernel
theorem dX0_aboveBody_24 : decode cX0_aboveBody 24 = .ok (.iaload, 1) := by decide +kernel
theorem dX0_aboveBody_25 : decode cX0_aboveBody 25 = .ok (.ireturn, 1) := by decide +kernel
theorem dX0_keep_0 : decode cX0_keep 0 = .ok (.aload_n 0, 1) := by decide +kernel
theorem dX0_keep_1 : decode cX0_keep 1 = .ok (.getfield 15, 3) := by decide +kernel
theorem dX0_keep_4 : decode cX0_keep 4 = .ok (.ifCond .lt 32, 3) := by decide +kernel
theorem dX0_keep_7 : decode cX0_keep 7 = .ok (.aload_n 0, 1) := by decide +kernel
theorem dX0_keep_8 : decode cX0_keep 8 = .ok (.getfield 15, 3) := by decide +kernel
theorem dX0_keep_11 : decode cX0_keep 11 = .ok (.bipush 24, 2) := by decide +kernel
theorem dX0_keep_13 : decode cX0_keep 13 = .ok (.if_icmp .ge 23, 3) := by decide +kernel
theorem dX0_keep_16 : decode cX0_keep 16 = .ok (.aload_n 0, 1) := by decide +kernel
theorem dX0_keep_17 : decode cX0_keep 17 = .ok (.getfield 9, 3) := by decide +kernel
theorem dX0_keep_20 : decode cX0_keep 20 = .ok (.aload_n 0, 1) := by decide +kernel
theorem dX0_keep_21 : decode cX0_keep 21 = .ok (.getfield 15, 3) := by decide +kernel
theorem dX0_keep_24 : decode cX0_keep 24 = .ok (.iload_n 1, 1) := by decide +kernel
theorem dX0_keep_25 : decode cX0_keep 25 = .ok (.iastore, 1) := by decide +kernel
theorem dX0_keep_26 : decode cX0_keep 26 = .ok (.aload_n 0, 1) := by decide +kernel
theorem dX0_keep_27 : decode cX0_keep 27 = .ok (.dup, 1) := by decide +kernel
theorem dX0_keep_28 : decode cX0_keep 28 = .ok (.getfield 15, 3) := by decide +kernel
theorem dX0_keep_31 : decode cX0_keep 31 = .ok (.iconst 1, 1) := by decide +kernel
theorem dX0_keep_32 : decode cX0_keep 32 = .ok (.iadd, 1) := by decide +kernel
theorem dX0_keep_33 : decode cX0_keep 33 = .ok (.putfield 15, 3) := by decide +kernel
theorem dX0_keep_36 : decode cX0_keep 36 = .ok (.return_, 1) := by decide +kernel
theorem dX1_init_0 : decode cX1_init 0 = .ok (.aload_n 0, 1) := by decide +kernel
theorem dX1_init_1 : decode cX1_init 1 = .ok (.invokespecial 3, 3) := by decide +kernel
theorem dX1_init_4 : decode cX1_init 4 = .ok (.aload_n 0, 1) := by decide +kernel
theorem dX1_init_5 : decode cX1_init 5 = .ok (.bipush 12, 2) := by decide +kernel
theorem dX1_init_7 : decode cX1_init 7 = .ok (.newarray .int, 2) := by decide +kernel
theorem dX1_init_9 : decode cX1_init 9 = .ok (.putfield 9, 3) := by decide +kernel
theorem dX1_init_12 : decode cX1_init 12 = .ok (.aload_n 0, 1) := by decide +kernel
theorem dX1_init_13 : decode cX1_init 13 = .ok (.bipush 12, 2) := by decide +kernel
theorem dX1_init_15 : decode cX1_init 15 = .ok (.newarray .int, 2) := by decide +kernel
theorem dX1_init_17 : decode cX1_init 17 = .ok (.putfield 15, 3) := by decide +kernel
theorem dX1_init_20 : decode cX1_init 20 = .ok (.aload_n 0, 1) := by decide +kernel
theorem dX1_init_21 : decode cX1_init 21 = .ok (.bipush 12, 2) := by decide +kernel
theorem dX1_init_23 : decode cX1_init 23 = .ok (.newarray .int, 2) := by decide +kernel
theorem dX1_init_25 : decode cX1_init 25 = .ok (.putfield 18, 3) := by decide +kernel
theorem dX1_init_28 : decode cX1_init 28 = .ok (.aload_n 0, 1) := by decide +kernel
theorem dX1_init_29 : decode cX1_init 29 = .ok (.iconst 0, 1) := by decide +kernel
theorem dX1_init_30 : decode cX1_init 30 = .ok (.putfield 21, 3) := by decide +kernel
theorem dX1_init_33 : decode cX1_init 33 = .ok (.aload_n 0, 1) := by decide +kernel
theorem dX1_init_34 : decode cX1_init 34 = .ok (.iconst 0, 1) := by decide +kernel
theorem dX1_init_35 : decode cX1_init 35 = .ok (.putfield 25, 3) := by decide +kernel
theorem dX1_init_38 : decode cX1_init 38 = .ok (.return_, 1) := by decide +kernel
set_option maxRecDepth 20000 in
theorem gw_wsX1_dropEldest : wsX1_dropEldest.all goodWord = true := by decide +kernel
set_option maxRecDepth 20000 in
theorem ggX1_add_X1_dropEldest : GoodIn wsX1_add wsX1_dropEldest := goodIn_sub (List.forall_mem_cons.mpr ⟨(List.mem_cons_of_mem _ (List.mem_append_left _ (List.mem_of_getElem? (i := 9) rfl))), List.forall_mem_append.mpr ⟨List.forall_mem_cons.mpr ⟨(List.mem_cons_of_mem _ (List.mem_append_left _ (List.mem_of_getElem? (i := 1) rfl))), List.forall_mem_cons.mpr ⟨(List.mem_cons_of_mem _ (List.mem_append_left _ (List.mem_of_getElem? (i := 2) rfl))), List.forall_mem_cons.mpr ⟨(List.mem_cons_of_mem _ (List.mem_append_left _ (List.mem_of_getElem? (i := 3) rfl))), List.forall_mem_cons.mpr ⟨(List.mem_cons_of_mem _ (List.mem_append_left _ (List.mem_of_getElem? (i := 0) rfl))), fun _ h => absurd h List.not_mem_nil⟩⟩⟩⟩, fun _ h => (List.mem_cons_of_mem _ (List.mem_append_right _ h))⟩⟩) gw_wsX1_dropEldest
set_option maxRecDepth 20000 in
theorem gX1_add_X1_dropEldest : GoodIn wsX1_add (wsV RX1 28 RX1 yX1_dropEldest wsX1_dropEldest) := goodIn_app (goodIn_of _ (by decide +kernel)) ggX1_add_X1_dropEldest
theorem dX1_add_0 : decode cX1_add 0 = .ok (.aload_n 0, 1) := by decide +kernel
theorem dX1_add_1 : decode cX1_add 1 = .ok (.getfield 21, 3) := by decide +kernel
theorem dX1_add_4 : decode cX1_add 4 = .ok (.bipush 12, 2) := by decide +kernel
theorem dX1_add_6 : decode cX1_add 6 = .ok (.if_icmp .lt 7, 3) := by decide +kernel
theorem dX1_add_9 : decode cX1_add 9 = .ok (.aload_n 0, 1) := by decide +kernel
theorem dX1_add_10 : decode cX1_add 10 = .ok (.invokevirtual 28, 3) := by decide +kernel
theorem dX1_add_13 : decode cX1_add 13 = .ok (.aload_n 0, 1) := by decide +kernel
theorem dX1_add_14 : decode cX1_add 14 = .ok (.getfield 21, 3) := by decide +kernel
theorem dX1_add_17 : decode cX1_add 17 = .ok (.ifCond .lt 52, 3) := by decide +kernel
theorem dX1_add_20 : decode cX1_add 20 = .ok (.aload_n 0, 1) := by decide +kernel
theorem dX1_add_21 : decode cX1_add 21 = .ok (.getfield 21, 3) := by decide +kernel
theorem dX1_add_24 : decode cX1_add 24 = .ok (.bipush 12, 2) := by decide +kernel
theorem dX1_add_26 : decode cX1_add 26 = .ok (.if_icmp .ge 43, 3) := by decide +kernel
theorem dX1_add_29 : decode cX1_add 29 = .ok (.aload_n 0, 1) := by decide +kernel
theorem dX1_add_30 : decode cX1_add 30 = .ok (.getfield 9, 3) := by decide +kernel
theorem dX1_add_33 : decode cX1_add 33 = .ok (.aload_n 0, 1) := by decide +kernel
theorem dX1_add_34 : decode cX1_add 34 = .ok (.getfield 21, 3) := by decide +kernel
theorem dX1_add_37 : decode cX1_add 37 = .ok (.iload_n 1, 1) := by decide +kernel
theorem dX1_add_38 : decode cX1_add 38 = .ok (.iastore, 1) := by decide +kernel
theorem dX1_add_39 : decode cX1_add 39 = .ok (.aload_n 0, 1) := by decide +kernel
theorem dX1_add_40 : decode cX1_add 40 = .ok (.getfield 15, 3) := by decide +kernel
theorem dX1_add_43 : decode cX1_add 43 = .ok (.aload_n 0, 1) := by decide +kernel
theorem dX1_add_44 : decode cX1_add 44 = .ok (.getfield 21, 3) := by decide +kernel
theorem dX1_add_47 : decode cX1_add 47 = .ok (.iload_n 2, 1) := by decide +kernel
theorem dX1_add_48 : decode cX1_add 48 = .ok (.iastore, 1) := by decide +kernel
theorem dX1_add_49 : decode cX1_add 49 = .ok (.aload_n 0, 1) := by decide +kernel
theorem dX1_add_50 : decode cX1_add 50 = .ok (.getfield 18, 3) := by decide +kernel
theorem dX1_add_53 : decode cX1_add 53 = .ok (.aload_n 0, 1) := by decide +kernel
theorem dX1_add_54 : decode cX1_add 54 = .ok (.getfield 21, 3) := by decide +kernel
theorem dX1_add_57 : decode cX1_add 57 = .ok (.iload_n 3, 1) := by decide +kernel
theorem dX1_add_58 : decode cX1_add 58 = .ok (.iastore, 1) := by decide +kernel
theorem dX1_add_59 : decode cX1_add 59 = .ok (.aload_n 0, 1) := by decide +kernel
theorem dX1_add_60 : decode cX1_add 60 = .ok (.dup, 1) := by decide +kernel
theorem dX1_add_61 : decode cX1_add 61 = .ok (.getfield 21, 3) := by decide +kernel
theorem dX1_add_64 : decode cX1_add 64 = .ok (.iconst 1, 1) := by decide +kernel
theorem dX1_add_65 : decode cX1_add 65 = .ok (.iadd, 1) := by decide +kernel
theorem dX1_add_66 : decode cX1_add 66 = .ok (.putfield 21, 3) := by decide +kernel
theorem dX1_add_69 : decode cX1_add 69 = .ok (.aload_n 0, 1) := by decide +kernel
theorem dX1_add_70 : decode cX1_add 70 = .ok (.iconst 0, 1) := by decide +kernel
theorem dX1_add_71 : decode cX1_add 71 = .ok (.putfield 25, 3) := by decide +kernel
theorem dX1_add_74 : decode cX1_add 74 = .ok (.return_, 1) := by decide +kernel
theorem dX1_dropEldest_0 : decode cX1_dropEldest 0 = .ok (.iconst 1, 1) := by decide +kernel
theorem dX1_dropEldest_1 : decode cX1_dropEldest 1 = .ok (.istore_n 1, 1) := by decide +kernel
theorem dX1_dropEldest_2 : decode cX1_dropEldest 2 = .ok (.iload_n 1, 1) := by decide +kernel
theorem dX1_dropEldest_3 : decode cX1_dropEldest 3 = .ok (.bipush 12, 2) := by decide +kernel
theorem dX1_dropEldest_5 : decode cX1_dropEldest 5 = .ok (.if_icmp .ge 51, 3) := by decide +kernel
theorem dX1_dropEldest_8 : decode cX1_dropEldest 8 = .ok (.aload_n 0, 1) := by decide +kernel
theorem dX1_dropEldest_9 : decode cX1_dropEldest 9 = .ok (.getfield 9, 3) := by decide +kernel
theorem dX1_dropEldest_12 : decode cX1_dropEldest 12 = .ok (.iload_n 1, 1) := by decide +kernel
theorem dX1_dropEldest_13 : decode cX1_dropEldest 13 = .ok (.iconst 1, 1) := by decide +kernel
theorem dX1_dropEldest_14 : decode cX1_dropEldest 14 = .ok (.isub, 1) := by decide +kernel
theorem dX1_dropEldest_15 : decode cX1_dropEldest 15 = .ok (.aload_n 0, 1) := by decide +kernel
theorem dX1_dropEldest_16 : decode cX1_dropEldest 16 = .ok (.getfield 9, 3) := by decide +kernel
theorem dX1_dropEldest_19 : decode cX1_dropEldest 19 = .ok (.iload_n 1, 1) := by decide +kernel
theorem dX1_dropEldest_20 : decode cX1_dropEldest 20 = .ok (.iaload, 1) := by decide +kernel
theorem dX1_dropEldest_21 : decode cX1_dropEldest 21 = .ok (.iastore, 1) := by decide +kernel
theorem dX1_dropEldest_22 : decode cX1_dropEldest 22 = .ok (.aload_n 0, 1) := by decide +kernel
theorem dX1_dropEldest_23 : decode cX1_dropEldest 23 = .ok (.getfield 15, 3) := by decide +kernel
theorem dX1_dropEldest_26 : decode cX1_dropEldest 26 = .ok (.iload_n 1, 1) := by decide +kernel
theorem dX1_dropEldest_27 : decode cX1_dropEldest 27 = .ok (.iconst 1, 1) := by decide +kernel
theorem dX1_dropEldest_28 : decode cX1_dropEldest 28 = .ok (.isub, 1) := by decide +kernel
theorem dX1_dropEldest_29 : decode cX1_dropEldest 29 = .ok (.aload_n 0, 1) := by decide +kernel
theorem dX1_dropEldest_30 : decode cX1_dropEldest 30 = .ok (.getfield 15, 3) := by decide +kernel
theorem dX1_dropEldest_33 : decode cX1_dropEldest 33 = .ok (.iload_n 1, 1) := by decide +kernel
theorem dX1_dropEldest_34 : decode cX1_dropEldest 34 = .ok (.iaload, 1) := by decide +kernel
theorem dX1_dropEldest_35 : decode cX1_dropEldest 35 = .ok (.iastore, 1) := by decide +kernel
theorem dX1_dropEldest_36 : decode cX1_dropEldest 36 = .ok (.aload_n 0, 1) := by decide +kernel
theorem dX1_dropEldest_37 : decode cX1_dropEldest 37 = .ok (.getfield 18, 3) := by decide +kernel
theorem dX1_dropEldest_40 : decode cX1_dropEldest 40 = .ok (.iload_n 1, 1) := by decide +kernel
theorem dX1_dropEldest_41 : decode cX1_dropEldest 41 = .ok (.iconst 1, 1) := by decide +kernel
theorem dX1_dropEldest_42 : decode cX1_dropEldest 42 = .ok (.isub, 1) := by decide +kernel
theorem dX1_dropEldest_43 : decode cX1_dropEldest 43 = .ok (.aload_n 0, 1) := by decide +kernel
theorem dX1_dropEldest_44 : decode cX1_dropEldest 44 = .ok (.getfield 18, 3) := by decide +kernel
theorem dX1_dropEldest_47 : decode cX1_dropEldest 47 = .ok (.iload_n 1, 1) := by decide +kernel
theorem dX1_dropEldest_48 : decode cX1_dropEldest 48 = .ok (.iaload, 1) := by decide +kernel
theorem dX1_dropEldest_49 : decode cX1_dropEldest 49 = .ok (.iastore, 1) := by decide +kernel
theorem dX1_dropEldest_50 : decode cX1_dropEldest 50 = .ok (.iinc 1 1, 3) := by decide +kernel
theorem dX1_dropEldest_53 : decode cX1_dropEldest 53 = .ok (.goto (-51), 3) := by decide +kernel
theorem dX1_dropEldest_56 : decode cX1_dropEldest 56 = .ok (.aload_n 0, 1) := by decide +kernel
theorem dX1_dropEldest_57 : decode cX1_dropEldest 57 = .ok (.bipush 11, 2) := by decide +kernel
theorem dX1_dropEldest_59 : decode cX1_dropEldest 59 = .ok (.putfield 21, 3) := by decide +kernel
theorem dX1_dropEldest_62 : decode cX1_dropEldest 62 = .ok (.return_, 1) := by decide +kernel
theorem dX1_stepBack_0 : decode cX1_stepBack 0 = .ok (.aload_n 0, 1) := by decide +kernel
theorem dX1_stepBack_1 : decode cX1_stepBack 1 = .ok (.getfield 21, 3) := by decide +kernel
theorem dX1_stepBack_4 : decode cX1_stepBack 4 = .ok (.ifCond .gt 5, 3) := by decide +kernel
theorem dX1_stepBack_7 : decode cX1_stepBack 7 = .ok (.iconst (-1), 1) := by decide +kernel
theorem dX1_stepBack_8 : decode cX1_stepBack 8 = .ok (.ireturn, 1) := by decide +kernel
theorem dX1_stepBack_9 : decode cX1_stepBack 9 = .ok (.aload_n 0, 1) := by decide +kernel
theorem dX1_stepBack_10 : decode cX1_stepBack 10 = .ok (.dup, 1) := by decide +kernel
theorem dX1_stepBack_11 : decode cX1_stepBack 11 = .ok (.getfield 21, 3) := by decide +kernel
theorem dX1_stepBack_14 : decode cX1_stepBack 14 = .ok (.iconst 1, 1) := by decide +kernel
theorem dX1_stepBack_15 : decode cX1_stepBack 15 = .ok (.isub, 1) := by decide +kernel
theorem dX1_stepBack_16 : decode cX1_stepBack 16 = .ok (.putfield 21, 3) := by decide +kernel
theorem dX1_stepBack_19 : decode cX1_stepBack 19 = .ok (.aload_n 0, 1) := by decide +kernel
theorem dX1_stepBack_20 : decode cX1_stepBack 20 = .ok (.dup, 1) := by decide +kernel
theorem dX1_stepBack_21 : decode cX1_stepBack 21 = .ok (.getfield 25, 3) := by decide +kernel
theorem dX1_stepBack_24 : decode cX1_stepBack 24 = .ok (.iconst 1, 1) := by decide +kernel
theorem dX1_stepBack_25 : decode cX1_stepBack 25 = .ok (.iadd, 1) := by decide +kernel
theorem dX1_stepBack_26 : decode cX1_stepBack 26 = .ok (.putfield 25, 3) := by decide +kernel
theorem dX1_stepBack_29 : decode cX1_stepBack 29 = .ok (.aload_n 0, 1) := by decide +kernel
theorem dX1_stepBack_30 : decode cX1_stepBack 30 = .ok (.getfield 21, 3) := by decide +kernel
theorem dX1_stepBack_33 : decode cX1_stepBack 33 = .ok (.ireturn, 1) := by decide +kernel
theorem dX1_stepOn_0 : decode cX1_stepOn 0 = .ok (.aload_n 0, 1) := by decide +kernel
theorem dX1_stepOn_1 : decode cX1_stepOn 1 = .ok (.getfield 25, 3) := by decide +kernel
theorem dX1_stepOn_4 : decode cX1_stepOn 4 = .ok (.ifCond .gt 5, 3) := by decide +kernel
theorem dX1_stepOn_7 : decode cX1_stepOn 7 = .ok (.iconst (-1), 1) := by decide +kernel
theorem dX1_stepOn_8 : decode cX1_stepOn 8 = .ok (.ireturn, 1) := by decide +kernel
theorem dX1_stepOn_9 : decode cX1_stepOn 9 = .ok (.aload_n 0, 1) := by decide +kernel
theorem dX1_stepOn_10 : decode cX1_stepOn 10 = .ok (.dup, 1) := by decide +kernel
theorem dX1_stepOn_11 : decode cX1_stepOn 11 = .ok (.getfield 21, 3) := by decide +kernel
theorem dX1_stepOn_14 : decode cX1_stepOn 14 = .ok (.iconst 1, 1) := by decide +kernel
theorem dX1_stepOn_15 : decode cX1_stepOn 15 = .ok (.iadd, 1) := by decide +kernel
theorem dX1_stepOn_16 : decode cX1_stepOn 16 = .ok (.putfield 21, 3) := by decide +kernel
theorem dX1_stepOn_19 : decode cX1_stepOn 19 = .ok (.aload_n 0, 1) := by decide +kernel
theorem dX1_stepOn_20 : decode cX1_stepOn 20 = .ok (.dup, 1) := by decide +kernel
theorem dX1_stepOn_21 : decode cX1_stepOn 21 = .ok (.getfield 25, 3) := by decide +kernel
theorem dX1_stepOn_24 : decode cX1_stepOn 24 = .ok (.iconst 1, 1) := by decide +kernel
theorem dX1_stepOn_25 : decode cX1_stepOn 25 = .ok (.isub, 1) := by decide +kernel
theorem dX1_stepOn_26 : decode cX1_stepOn 26 = .ok (.putfield 25, 3) := by decide +kernel
theorem dX1_stepOn_29 : decode cX1_stepOn 29 = .ok (.aload_n 0, 1) := by decide +kernel
theorem dX1_stepOn_30 : decode cX1_stepOn 30 = .ok (.getfield 21, 3) := by decide +kernel
theorem dX1_stepOn_33 : decode cX1_stepOn 33 = .ok (.iconst 1, 1) := by decide +kernel
theorem dX1_stepOn_34 : decode cX1_stepOn 34 = .ok (.isub, 1) := by decide +kernel
theorem dX1_stepOn_35 : decode cX1_stepOn 35 = .ok (.ireturn, 1) := by decide +kernel
theorem dX1_forget_0 : decode cX1_forget 0 = .ok (.aload_n 0, 1) := by decide +kernel
theorem dX1_forget_1 : decode cX1_forget 1 = .ok (.iconst 0, 1) := by decide +kernel
theorem dX1_forget_2 : decode cX1_forget 2 = .ok (.putfield 21, 3) := by decide +kernel
theorem dX1_forget_5 : decode cX1_forget 5 = .ok (.aload_n 0, 1) := by decide +kernel
theorem dX1_forget_6 : decode cX1_forget 6 = .ok (.iconst 0, 1) := by decide +kernel
theorem dX1_forget_7 : decode cX1_forget 7 = .ok (.putfield 25, 3) := by decide +kernel
theorem dX1_forget_10 : decode cX1_forget 10 = .ok (.return_, 1) := by decide +kernel
theorem dX2_init_0 : decode cX2_init 0 = .ok (.aload_n 0, 1) := by decide +kernel
theorem dX2_init_1 : decode cX2_init 1 = .ok (.invokespecial 3, 3) := by decide +kernel
theorem dX2_init_4 : decode cX2_init 4 = .ok (.aload_n 0, 1) := by decide +kernel
theorem dX2_init_5 : decode cX2_init 5 = .ok (.bipush 40, 2) := by decide +kernel
theorem dX2_init_7 : decode cX2_init 7 = .ok (.newarray .int, 2) := by decide +kernel
theorem dX2_init_9 : decode cX2_init 9 = .ok (.putfield 9, 3) := by decide +kernel
theorem dX2_init_12 : decode cX2_init 12 = .ok (.aload_n 0, 1) := by decide +kernel
theorem dX2_init_13 : decode cX2_init 13 = .ok (.bipush 40, 2) := by decide +kernel
theorem dX2_init_15 : decode cX2_init 15 = .ok (.newarray .int, 2) := by decide +kernel
theorem dX2_init_17 : decode cX2_init 17 = .ok (.putfield 15, 3) := by decide +kernel
theorem dX2_init_20 : decode cX2_init 20 = .ok (.aload_n 0, 1) := by decide +kernel
theorem dX2_init_21 : decode cX2_init 21 = .ok (.iconst 0, 1) := by decide +kernel
theorem dX2_init_22 : decode cX2_init 22 = .ok (.putfield 18, 3) := by decide +kernel
theorem dX2_init_25 : decode cX2_init 25 = .ok (.aload_n 0, 1) := by decide +kernel
theorem dX2_init_26 : decode cX2_init 26 = .ok (.iconst 0, 1) := by decide +kernel
theorem dX2_init_27 : decode cX2_init 27 = .ok (.putfield 22, 3) := by decide +kernel
theorem dX2_init_30 : decode cX2_init 30 = .ok (.aload_n 0, 1) := by decide +kernel
theorem dX2_init_31 : decode cX2_init 31 = .ok (.iconst 0, 1) := by decide +kernel
theorem dX2_init_32 : decode cX2_init 32 = .ok (.putfield 25, 3) := by decide +kernel
theorem dX2_init_35 : decode cX2_init 35 = .ok (.aload_n 0, 1) := by decide +kernel
theorem dX2_init_36 : decode cX2_init 36 = .ok (.iconst 0, 1) := by decide +kernel
theorem dX2_init_37 : decode cX2_init 37 = .ok (.putfield 29, 3) := by decide +kernel
theorem dX2_init_40 : decode cX2_init 40 = .ok (.return_, 1) := by decide +kernel
set_option maxRecDepth 20000 in
theorem gw_wsX4_inputAt : wsX4_inputAt.all goodWord = true := by decide +kernel
set_option maxRecDepth 20000 in
theorem ggX2_follow_X4_inputAt : GoodIn wsX2_follow wsX4_inputAt := goodIn_sub (List.forall_mem_cons.mpr ⟨(List.mem_cons_of_mem _ (List.mem_append_left _ (List.mem_append_left _ (List.mem_append_left _ (List.mem_append_left _ (List.mem_of_getElem? (i := 15) rfl)))))), List.forall_mem_append.mpr ⟨List.forall_mem_cons.mpr ⟨(List.mem_cons_of_mem _ (List.mem_append_left _ (List.mem_append_left _ (List.mem_append_left _ (List.mem_append_left _ (List.mem_of_getElem? (i := 16) rfl)))))), List.forall_mem_cons.mpr ⟨(List.mem_cons_of_mem _ (List.mem_append_left _ (List.mem_append_left _ (List.mem_append_left _ (List.mem_append_left _ (List.mem_of_getElem? (i := 17) rfl)))))), List.forall_mem_cons.mpr ⟨(List.mem_cons_of_mem _ (List.mem_append_left _ (List.mem_append_left _ (List.mem_append_left _ (List.mem_append_left _ (List.mem_of_getElem? (i := 18) rfl)))))), List.forall_mem_cons.mpr ⟨(List.mem_cons_of_mem _ (List.mem_append_left _ (List.mem_append_left _ (List.mem_append_left _ (List.mem_append_left _ (List.mem_of_getElem? (i := 19) rfl)))))), List.forall_mem_cons.mpr ⟨(List.mem_cons_of_mem _ (List.mem_append_left _ (List.mem_append_left _ (List.mem_append_left _ (List.mem_append_left _ (List.mem_of_getElem? (i := 20) rfl)))))), List.forall_mem_cons.mpr ⟨(List.mem_cons_of_mem _ (List.mem_append_left _ (List.mem_append_left _ (List.mem_append_left _ (List.mem_append_left _ (List.mem_of_getElem? (i := 21) rfl)))))), List.forall_mem_cons.mpr ⟨(List.mem_cons_of_mem _ (List.mem_append_left _ (List.mem_append_left _ (List.mem_append_left _ (List.mem_append_left _ (List.mem_of_getElem? (i := 22) rfl)))))), List.forall_mem_cons.mpr ⟨(List.mem_cons_of_mem _ (List.mem_append_left _ (List.mem_append_left _ (List.mem_append_left _ (List.mem_append_left _ (List.mem_of_getElem? (i := 23) rfl)))))), List.forall_mem_cons.mpr ⟨(List.mem_cons_of_mem _ (List.mem_append_left _ (List.mem_append_left _ (List.mem_append_left _ (List.mem_append_right _ (List.mem_append_left _ (List.mem_of_getElem? (i := 0) rfl))))))), List.forall_mem_cons.mpr ⟨(List.mem_cons_of_mem _ (List.mem_append_left _ (List.mem_append_left _ (List.mem_append_left _ (List.mem_append_right _ (List.mem_append_left _ (List.mem_of_getElem? (i := 1) rfl))))))), List.forall_mem_cons.mpr ⟨(List.mem_cons_of_mem _ (List.mem_append_left _ (List.mem_append_left _ (List.mem_append_left _ (List.mem_append_right _ (List.mem_append_left _ (List.mem_of_getElem? (i := 2) rfl))))))), List.forall_mem_cons.mpr ⟨(List.mem_cons_of_mem _ (List.mem_append_left _ (List.mem_append_left _ (List.mem_append_left _ (List.mem_append_right _ (List.mem_append_left _ (List.mem_of_getElem? (i := 3) rfl))))))), List.forall_mem_cons.mpr ⟨(List.mem_cons_of_mem _ (List.mem_append_left _ (List.mem_append_left _ (List.mem_append_left _ (List.mem_append_right _ (List.mem_append_left _ (List.mem_of_getElem? (i := 4) rfl))))))), List.forall_mem_cons.mpr ⟨(List.mem_cons_of_mem _ (List.mem_append_left _ (List.mem_append_left _ (List.mem_append_left _ (List.mem_append_left _ (List.mem_of_getElem? (i := 14) rfl)))))), List.forall_mem_cons.mpr ⟨(List.mem_cons_of_mem _ (List.mem_append_left _ (List.mem_append_left _ (List.mem_append_left _ (List.mem_append_right _ (List.mem_append_left _ (List.mem_of_getElem? (i := 5) rfl))))))), List.forall_mem_cons.mpr ⟨(List.mem_cons_of_mem _ (List.mem_append_left _ (List.mem_append_left _ (List.mem_append_left _ (List.mem_append_right _ (List.mem_append_left _ (List.mem_of_getElem? (i := 6) rfl))))))), fun _ h => absurd h List.not_mem_nil⟩⟩⟩⟩⟩⟩⟩⟩⟩⟩⟩⟩⟩⟩⟩⟩, fun _ h => (List.mem_cons_of_mem _ (List.mem_append_left _ (List.mem_append_right _ h)))⟩⟩) gw_wsX4_inputAt
set_option maxRecDepth 20000 in
theorem gX2_follow_X4_inputAt : GoodIn wsX2_follow (wsV RX2 37 RX4 yX4_inputAt wsX4_inputAt) := goodIn_app (goodIn_of _ (by decide +kernel)) ggX2_follow_X4_inputAt
set_option maxRecDepth 20000 in
theorem gw_wsX3_weigh : wsX3_weigh.all goodWord = true := by decide +kernel
set_option maxRecDepth 20000 in
theorem ggX2_follow_X3_weigh : GoodIn wsX2_follow wsX3_weigh := goodIn_sub (List.forall_mem_cons.mpr ⟨(List.mem_cons_of_mem _ (List.mem_append_left _ (List.mem_append_left _ (List.mem_append_left _ (List.mem_append_right _ (List.mem_append_left _ (List.mem_of_getElem? (i := 11) rfl))))))), List.forall_mem_append.mpr ⟨List.forall_mem_append.mpr ⟨List.forall_mem_cons.mpr ⟨(List.mem_cons_of_mem _ (List.mem_append_left _ (List.mem_append_left _ (List.mem_append_left _ (List.mem_append_right _ (List.mem_append_left _ (List.mem_of_getElem? (i := 12) rfl))))))), List.forall_mem_cons.mpr ⟨(List.mem_cons_of_mem _ (List.mem_append_left _ (List.mem_append_left _ (List.mem_append_left _ (List.mem_append_right _ (List.mem_append_left _ (List.mem_of_getElem? (i := 13) rfl))))))), List.forall_mem_cons.mpr ⟨(List.mem_cons_of_mem _ (List.mem_append_left _ (List.mem_append_left _ (List.mem_append_left _ (List.mem_append_right _ (List.mem_append_left _ (List.mem_of_getElem? (i := 14) rfl))))))), List.forall_mem_cons.mpr ⟨(List.mem_cons_of_mem _ (List.mem_append_left _ (List.mem_append_left _ (List.mem_append_left _ (List.mem_append_right _ (List.mem_append_left _ (List.mem_of_getElem? (i := 10) rfl))))))), List.forall_mem_cons.mpr ⟨(List.mem_cons_of_mem _ (List.mem_append_left _ (List.mem_append_left _ (List.mem_append_left _ (List.mem_append_right _ (List.mem_append_left _ (List.mem_of_getElem? (i := 15) rfl))))))), List.forall_mem_cons.mpr ⟨(List.mem_cons_of_mem _ (List.mem_append_left _ (List.mem_append_left _ (List.mem_append_left _ (List.mem_append_right _ (List.mem_append_left _ (List.mem_of_getElem? (i := 16) rfl))))))), List.forall_mem_cons.mpr ⟨(List.mem_cons_of_mem _ (List.mem_append_left _ (List.mem_append_left _ (List.mem_append_left _ (List.mem_append_right _ (List.mem_append_left _ (List.mem_of_getElem? (i := 17) rfl))))))), List.forall_mem_cons.mpr ⟨(List.mem_cons_of_mem _ (List.mem_append_left _ (List.mem_append_left _ (List.mem_append_left _ (List.mem_append_right _ (List.mem_append_left _ (List.mem_of_getElem? (i := 18) rfl))))))), List.forall_mem_cons.mpr ⟨(List.mem_cons_of_mem _ (List.mem_append_left _ (List.mem_append_left _ (List.mem_append_left _ (List.mem_append_right _ (List.mem_append_left _ (List.mem_of_getElem? (i := 19) rfl))))))), List.forall_mem_cons.mpr ⟨(List.mem_cons_of_mem _ (List.mem_append_left _ (List.mem_append_left _ (List.mem_append_left _ (List.mem_append_right _ (List.mem_append_left _ (List.mem_of_getElem? (i := 20) rfl))))))), List.forall_mem_cons.mpr ⟨(List.mem_cons_of_mem _ (List.mem_append_left _ (List.mem_append_left _ (List.mem_append_left _ (List.mem_append_right _ (List.mem_append_left _ (List.mem_of_getElem? (i := 21) rfl))))))), List.forall_mem_cons.mpr ⟨(List.mem_cons_of_mem _ (List.mem_append_left _ (List.mem_append_left _ (List.mem_append_left _ (List.mem_append_right _ (List.mem_append_left _ (List.mem_of_getElem? (i := 22) rfl))))))), List.forall_mem_cons.mpr ⟨(List.mem_cons_of_mem _ (List.mem_append_left _ (List.mem_append_left _ (List.mem_append_left _ (List.mem_append_right _ (List.mem_append_left _ (List.mem_of_getElem? (i := 23) rfl))))))), List.forall_mem_cons.mpr ⟨(List.mem_cons_of_mem _ (List.mem_append_left _ (List.mem_append_left _ (List.mem_append_left _ (List.mem_append_right _ (List.mem_append_right _ (List.mem_append_left _ (List.mem_of_getElem? (i := 0) rfl)))))))), List.forall_mem_cons.mpr ⟨(List.mem_cons_of_mem _ (List.mem_append_left _ (List.mem_append_left _ (List.mem_append_left _ (List.mem_append_right _ (List.mem_append_right _ (List.mem_append_left _ (List.mem_of_getElem? (i := 1) rfl)))))))), List.forall_mem_cons.mpr ⟨(List.mem_cons_of_mem _ (List.mem_append_left _ (List.mem_append_left _ (List.mem_append_left _ (List.mem_append_right _ (List.mem_append_right _ (List.mem_append_left _ (List.mem_of_getElem? (i := 2) rfl)))))))), List.forall_mem_cons.mpr ⟨(List.mem_cons_of_mem _ (List.mem_append_left _ (List.mem_append_left _ (List.mem_append_left _ (List.mem_append_right _ (List.mem_append_right _ (List.mem_append_left _ (List.mem_of_getElem? (i := 3) rfl)))))))), List.forall_mem_cons.mpr ⟨(List.mem_cons_of_mem _ (List.mem_append_left _ (List.mem_append_left _ (List.mem_append_left _ (List.mem_append_right _ (List.mem_append_right _ (List.mem_append_left _ (List.mem_of_getElem? (i := 4) rfl)))))))), List.forall_mem_cons.mpr ⟨(List.mem_cons_of_mem _ (List.mem_append_left _ (List.mem_append_left _ (List.mem_append_left _ (List.mem_append_right _ (List.mem_append_right _ (List.mem_append_left _ (List.mem_of_getElem? (i := 5) rfl)))))))), List.forall_mem_cons.mpr ⟨(List.mem_cons_of_mem _ (List.mem_append_left _ (List.mem_append_left _ (List.mem_append_left _ (List.mem_append_right _ (List.mem_append_right _ (List.mem_append_left _ (List.mem_of_getElem? (i := 6) rfl)))))))), List.forall_mem_cons.mpr ⟨(List.mem_cons_of_mem _ (List.mem_append_left _ (List.mem_append_left _ (List.mem_append_left _ (List.mem_append_right _ (List.mem_append_right _ (List.mem_append_left _ (List.mem_of_getElem? (i := 7) rfl)))))))), List.forall_mem_cons.mpr ⟨(List.mem_cons_of_mem _ (List.mem_append_left _ (List.mem_append_left _ (List.mem_append_left _ (List.mem_append_right _ (List.mem_append_right _ (List.mem_append_left _ (List.mem_of_getElem? (i := 8) rfl)))))))), List.forall_mem_cons.mpr ⟨(List.mem_cons_of_mem _ (List.mem_append_left _ (List.mem_append_left _ (List.mem_append_left _ (List.mem_append_right _ (List.mem_append_right _ (List.mem_append_left _ (List.mem_of_getElem? (i := 9) rfl)))))))), List.forall_mem_cons.mpr ⟨(List.mem_cons_of_mem _ (List.mem_append_left _ (List.mem_append_left _ (List.mem_append_left _ (List.mem_append_right _ (List.mem_append_right _ (List.mem_append_left _ (List.mem_of_getElem? (i := 10) rfl)))))))), fun _ h => absurd h List.not_mem_nil⟩⟩⟩⟩⟩⟩⟩⟩⟩⟩⟩⟩⟩⟩⟩⟩⟩⟩⟩⟩⟩⟩⟩⟩, List.forall_mem_cons.mpr ⟨(List.mem_cons_of_mem _ (List.mem_append_left _ (List.mem_append_left _ (List.mem_append_left _ (List.mem_append_right _ (List.mem_append_right _ (List.mem_append_left _ (List.mem_of_getElem? (i := 11) rfl)))))))), List.forall_mem_cons.mpr ⟨(List.mem_cons_of_mem _ (List.mem_append_left _ (List.mem_append_left _ (List.mem_append_left _ (List.mem_append_right _ (List.mem_append_right _ (List.mem_append_left _ (List.mem_of_getElem? (i := 12) rfl)))))))), List.forall_mem_cons.mpr ⟨(List.mem_cons_of_mem _ (List.mem_append_left _ (List.mem_append_left _ (List.mem_append_left _ (List.mem_append_right _ (List.mem_append_right _ (List.mem_append_left _ (List.mem_of_getElem? (i := 13) rfl)))))))), List.forall_mem_cons.mpr ⟨(List.mem_cons_of_mem _ (List.mem_append_left _ (List.mem_append_left _ (List.mem_append_left _ (List.mem_append_right _ (List.mem_append_right _ (List.mem_append_left _ (List.mem_of_getElem? (i := 14) rfl)))))))), List.forall_mem_cons.mpr ⟨(List.mem_cons_of_mem _ (List.mem_append_left _ (List.mem_append_left _ (List.mem_append_left _ (List.mem_append_right _ (List.mem_append_right _ (List.mem_append_left _ (List.mem_of_getElem? (i := 15) rfl)))))))), List.forall_mem_cons.mpr ⟨(List.mem_cons_of_mem _ (List.mem_append_left _ (List.mem_append_left _ (List.mem_append_left _ (List.mem_append_right _ (List.mem_append_right _ (List.mem_append_left _ (List.mem_of_getElem? (i := 16) rfl)))))))), List.forall_mem_cons.mpr ⟨(List.mem_cons_of_mem _ (List.mem_append_left _ (List.mem_append_left _ (List.mem_append_left _ (List.mem_append_right _ (List.mem_append_right _ (List.mem_append_left _ (List.mem_of_getElem? (i := 17) rfl)))))))), List.forall_mem_cons.mpr ⟨(List.mem_cons_of_mem _ (List.mem_append_left _ (List.mem_append_left _ (List.mem_append_left _ (List.mem_append_right _ (List.mem_append_right _ (List.mem_append_left _ (List.mem_of_getElem? (i := 18) rfl)))))))), List.forall_mem_cons.mpr ⟨(List.mem_cons_of_mem _ (List.mem_append_left _ (List.mem_append_left _ (List.mem_append_left _ (List.mem_append_right _ (List.mem_append_right _ (List.mem_append_left _ (List.mem_of_getElem? (i := 19) rfl)))))))), List.forall_mem_cons.mpr ⟨(List.mem_cons_of_mem _ (List.mem_append_left _ (List.mem_append_left _ (List.mem_append_left _ (List.mem_append_right _ (List.mem_append_right _ (List.mem_append_left _ (List.mem_of_getElem? (i := 20) rfl)))))))), List.forall_mem_cons.mpr ⟨(List.mem_cons_of_mem _ (List.mem_append_left _ (List.mem_append_left _ (List.mem_append_left _ (List.mem_append_right _ (List.mem_append_right _ (List.mem_append_left _ (List.mem_of_getElem? (i := 21) rfl)))))))), List.forall_mem_cons.mpr ⟨(List.mem_cons_of_mem _ (List.mem_append_left _ (List.mem_append_left _ (List.mem_append_left _ (List.mem_append_right _ (List.mem_append_right _ (List.mem_append_left _ (List.mem_of_getElem? (i := 22) rfl)))))))), List.forall_mem_cons.mpr ⟨(List.mem_cons_of_mem _ (List.mem_append_left _ (List.mem_append_left _ (List.mem_append_left _ (List.mem_append_right _ (List.mem_append_right _ (List.mem_append_left _ (List.mem_of_getElem? (i := 23) rfl)))))))), fun _ h => absurd h List.not_mem_nil⟩⟩⟩⟩⟩⟩⟩⟩⟩⟩⟩⟩⟩⟩, fun _ h => (List.mem_cons_of_mem _ (List.mem_append_right _ h))⟩⟩) gw_wsX3_weigh
set_option maxRecDepth 20000 in
theorem gX2_follow_X3_weigh : GoodIn wsX2_follow (wsV RX2 41 RX3 yX3_weigh wsX3_weigh) := goodIn_app (goodIn_of _ (by decide +kernel)) ggX2_follow_X3_weigh
set_option maxRecDepth 20000 in
theorem gw_wsX3_push : wsX3_push.all goodWord = true := by decide +kernel
set_option maxRecDepth 20000 in
theorem ggX2_follow_X3_push : GoodIn wsX2_follow wsX3_push := goodIn_sub (List.forall_mem_cons.mpr ⟨(List.mem_cons_of_mem _ (List.mem_append_left _ (List.mem_append_left _ (List.mem_append_left _ (List.mem_append_right _ (List.mem_append_right _ (List.mem_append_right _ (List.mem_of_getElem? (i := 3) rfl)))))))), List.forall_mem_append.mpr ⟨List.forall_mem_cons.mpr ⟨(List.mem_cons_of_mem _ (List.mem_append_left _ (List.mem_append_left _ (List.mem_append_left _ (List.mem_append_right _ (List.mem_append_left _ (List.mem_of_getElem? (i := 18) rfl))))))), List.forall_mem_cons.mpr ⟨(List.mem_cons_of_mem _ (List.mem_append_left _ (List.mem_append_left _ (List.mem_append_left _ (List.mem_append_right _ (List.mem_append_right _ (List.mem_append_right _ (List.mem_of_getElem? (i := 4) rfl)))))))), List.forall_mem_cons.mpr ⟨(List.mem_cons_of_mem _ (List.mem_append_left _ (List.mem_append_left _ (List.mem_append_left _ (List.mem_append_right _ (List.mem_append_right _ (List.mem_append_right _ (List.mem_of_getElem? (i := 5) rfl)))))))), List.forall_mem_cons.mpr ⟨(List.mem_cons_of_mem _ (List.mem_append_left _ (List.mem_append_left _ (List.mem_append_left _ (List.mem_append_left _ (List.mem_of_getElem? (i := 21) rfl)))))), List.forall_mem_cons.mpr ⟨(List.mem_cons_of_mem _ (List.mem_append_left _ (List.mem_append_left _ (List.mem_append_left _ (List.mem_append_right _ (List.mem_append_right _ (List.mem_append_right _ (List.mem_of_getElem? (i := 6) rfl)))))))), List.forall_mem_cons.mpr ⟨(List.mem_cons_of_mem _ (List.mem_append_left _ (List.mem_append_left _ (List.mem_append_left _ (List.mem_append_right _ (List.mem_append_left _ (List.mem_of_getElem? (i := 19) rfl))))))), List.forall_mem_cons.mpr ⟨(List.mem_cons_of_mem _ (List.mem_append_left _ (List.mem_append_left _ (List.mem_append_left _ (List.mem_append_right _ (List.mem_append_right _ (List.mem_append_left _ (List.mem_of_getElem? (i := 7) rfl)))))))), fun _ h => absurd h List.not_mem_nil⟩⟩⟩⟩⟩⟩⟩, fun _ h => (List.mem_cons_of_mem _ (List.mem_append_right _ h))⟩⟩) gw_wsX3_push
set_option maxRecDepth 20000 in
theorem gX2_follow_X3_push : GoodIn wsX2_follow (wsV RX2 56 RX3 yX3_push wsX3_push) := goodIn_app (goodIn_of _ (by decide +kernel)) ggX2_follow_X3_push
theorem dX2_follow_0 : decode cX2_follow 0 = .ok (.aload_n 0, 1) := by decide +kernel
theorem dX2_follow_1 : decode cX2_follow 1 = .ok (.iconst 0, 1) := by decide +kernel
theorem dX2_follow_2 : decode cX2_follow 2 = .ok (.putfield 18, 3) := by decide +kernel
theorem dX2_follow_5 : decode cX2_follow 5 = .ok (.aload_n 0, 1) := by decide +kernel
theorem dX2_follow_6 : decode cX2_follow 6 = .ok (.iconst 0, 1) := by decide +kernel
theorem dX2_follow_7 : decode cX2_follow 7 = .ok (.putfield 22, 3) := by decide +kernel
theorem dX2_follow_10 : decode cX2_follow 10 = .ok (.aload_n 0, 1) := by decide +kernel
theorem dX2_follow_11 : decode cX2_follow 11 = .ok (.iconst 0, 1) := by decide +kernel
theorem dX2_follow_12 : decode cX2_follow 12 = .ok (.putfield 25, 3) := by decide +kernel
theorem dX2_follow_15 : decode cX2_follow 15 = .ok (.iconst 0, 1) := by decide +kernel
theorem dX2_follow_16 : decode cX2_follow 16 = .ok (.istore_n 3, 1) := by decide +kernel
theorem dX2_follow_17 : decode cX2_follow 17 = .ok (.iload_n 3, 1) := by decide +kernel
theorem dX2_follow_18 : decode cX2_follow 18 = .ok (.aload_n 2, 1) := by decide +kernel
theorem dX2_follow_19 : decode cX2_follow 19 = .ok (.getfield 32, 3) := by decide +kernel
theorem dX2_follow_22 : decode cX2_follow 22 = .ok (.if_icmp .ge 108, 3) := by decide +kernel
theorem dX2_follow_25 : decode cX2_follow 25 = .ok (.iload_n 3, 1) := by decide +kernel
theorem dX2_follow_26 : decode cX2_follow 26 = .ok (.bipush 40, 2) := by decide +kernel
theorem dX2_follow_28 : decode cX2_follow 28 = .ok (.if_icmp .ge 102, 3) := by decide +kernel
theorem dX2_follow_31 : decode cX2_follow 31 = .ok (.aload_n 0, 1) := by decide +kernel
theorem dX2_follow_32 : decode cX2_follow 32 = .ok (.getfield 25, 3) := by decide +kernel
theorem dX2_follow_35 : decode cX2_follow 35 = .ok (.ifCond .ne 95, 3) := by decide +kernel
theorem dX2_follow_38 : decode cX2_follow 38 = .ok (.aload_n 1, 1) := by decide +kernel
theorem dX2_follow_39 : decode cX2_follow 39 = .ok (.aload_n 2, 1) := by decide +kernel
theorem dX2_follow_40 : decode cX2_follow 40 = .ok (.iload_n 3, 1) := by decide +kernel
theorem dX2_follow_41 : decode cX2_follow 41 = .ok (.invokevirtual 37, 3) := by decide +kernel
theorem dX2_follow_44 : decode cX2_follow 44 = .ok (.invokevirtual 41, 3) := by decide +kernel
theorem dX2_follow_47 : decode cX2_follow 47 = .ok (.aload_n 1, 1) := by decide +kernel
theorem dX2_follow_48 : decode cX2_follow 48 = .ok (.getfield 47, 3) := by decide +kernel
theorem dX2_follow_51 : decode cX2_follow 51 = .ok (.ifCond .eq 13, 3) := by decide +kernel
theorem dX2_follow_54 : decode cX2_follow 54 = .ok (.aload_n 0, 1) := by decide +kernel
theorem dX2_follow_55 : decode cX2_follow 55 = .ok (.dup, 1) := by decide +kernel
theorem dX2_follow_56 : decode cX2_follow 56 = .ok (.getfield 22, 3) := by decide +kernel
theorem dX2_follow_59 : decode cX2_follow 59 = .ok (.iconst 1, 1) := by decide +kernel
theorem dX2_follow_60 : decode cX2_follow 60 = .ok (.iadd, 1) := by decide +kernel
theorem dX2_follow_61 : decode cX2_follow 61 = .ok (.putfield 22, 3) := by decide +kernel
theorem dX2_follow_64 : decode cX2_follow 64 = .ok (.aload_n 1, 1) := by decide +kernel
theorem dX2_follow_65 : decode cX2_follow 65 = .ok (.getfield 50, 3) := by decide +kernel
theorem dX2_follow_68 : decode cX2_follow 68 = .ok (.sipush (-1005), 3) := by decide +kernel
theorem dX2_follow_71 : decode cX2_follow 71 = .ok (.if_icmp .ne 19, 3) := by decide +kernel
theorem dX2_follow_74 : decode cX2_follow 74 = .ok (.aload_n 0, 1) := by decide +kernel
theorem dX2_follow_75 : decode cX2_follow 75 = .ok (.iconst 1, 1) := by decide +kernel
theorem dX2_follow_76 : decode cX2_follow 76 = .ok (.putfield 25, 3) := by decide +kernel
theorem dX2_follow_79 : decode cX2_follow 79 = .ok (.aload_n 0, 1) := by decide +kernel
theorem dX2_follow_80 : decode cX2_follow 80 = .ok (.aload_n 1, 1) := by decide +kernel
theorem dX2_follow_81 : decode cX2_follow 81 = .ok (.getfield 53, 3) := by decide +kernel
theorem dX2_follow_84 : decode cX2_follow 84 = .ok (.putfield 29, 3) := by decide +kernel
theorem dX2_follow_87 : decode cX2_follow 87 = .ok (.goto 37, 3) := by decide +kernel
theorem dX2_follow_90 : decode cX2_follow 90 = .ok (.aload_n 1, 1) := by decide +kernel
theorem dX2_follow_91 : decode cX2_follow 91 = .ok (.invokevirtual 56, 3) := by decide +kernel
theorem dX2_follow_94 : decode cX2_follow 94 = .ok (.aload_n 0, 1) := by decide +kernel
theorem dX2_follow_95 : decode cX2_follow 95 = .ok (.getfield 9, 3) := by decide +kernel
theorem dX2_follow_98 : decode cX2_follow 98 = .ok (.iload_n 3, 1) := by decide +kernel
theorem dX2_follow_99 : decode cX2_follow 99 = .ok (.aload_n 1, 1) := by decide +kernel
theorem dX2_follow_100 : decode cX2_follow 100 = .ok (.getfield 50, 3) := by decide +kernel
theorem dX2_follow_103 : decode cX2_follow 103 = .ok (.iastore, 1) := by decide +kernel
theorem dX2_follow_104 : decode cX2_follow 104 = .ok (.aload_n 0, 1) := by decide +kernel
theorem dX2_follow_105 : decode cX2_follow 105 = .ok (.getfield 15, 3) := by decide +kernel
theorem dX2_follow_108 : decode cX2_follow 108 = .ok (.iload_n 3, 1) := by decide +kernel
theorem dX2_follow_109 : decode cX2_follow 109 = .ok (.aload_n 1, 1) := by decide +kernel
theorem dX2_follow_110 : decode cX2_follow 110 = .ok (.getfield 59, 3) := by decide +kernel
theorem dX2_follow_113 : decode cX2_follow 113 = .ok (.iastore, 1) := by decide +kernel
theorem dX2_follow_114 : decode cX2_follow 114 = .ok (.aload_n 0, 1) := by decide +kernel
theorem dX2_follow_115 : decode cX2_follow 115 = .ok (.dup, 1) := by decide +kernel
theorem dX2_follow_116 : decode cX2_follow 116 = .ok (.getfield 18, 3) := by decide +kernel
theorem dX2_follow_119 : decode cX2_follow 119 = .ok (.iconst 1, 1) := by decide +kernel
theorem dX2_follow_120 : decode cX2_follow 120 = .ok (.iadd, 1) := by decide +kernel
theorem dX2_follow_121 : decode cX2_follow 121 = .ok (.putfield 18, 3) := by decide +kernel
theorem dX2_follow_124 : decode cX2_follow 124 = .ok (.iinc 3 1, 3) := by decide +kernel
theorem dX2_follow_127 : decode cX2_follow 127 = .ok (.goto (-110), 3) := by decide +kernel
theorem dX2_follow_130 : decode cX2_follow 130 = .ok (.return_, 1) := by decide +kernel
theorem dX2_lossesTogether_0 : decode cX2_lossesTogether 0 = .ok (.iconst 0, 1) := by decide +kernel
theorem dX2_lossesTogether_1 : decode cX2_lossesTogether 1 = .ok (.istore_n 1, 1) := by decide +kernel
theorem dX2_lossesTogether_2 : decode cX2_lossesTogether 2 = .ok (.iconst 0, 1) := by decide +kernel
theorem dX2_lossesTogether_3 : decode cX2_lossesTogether 3 = .ok (.istore_n 2, 1) := by decide +kernel
theorem dX2_lossesTogether_4 : decode cX2_lossesTogether 4 = .ok (.iload_n 2, 1) := by decide +kernel
theorem dX2_lossesTogether_5 : decode cX2_lossesTogether 5 = .ok (.aload_n 0, 1) := by decide +kernel
theorem dX2_lossesTogether_6 : decode cX2_lossesTogether 6 = .ok (.getfield 18, 3) := by decide +kernel
theorem dX2_lossesTogether_9 : decode cX2_lossesTogether 9 = .ok (.if_icmp .ge 27, 3) := by decide +kernel
theorem dX2_lossesTogether_12 : decode cX2_lossesTogether 12 = .ok (.iload_n 2, 1) := by decide +kernel
theorem dX2_lossesTogether_13 : decode cX2_lossesTogether 13 = .ok (.bipush 40, 2) := by decide +kernel
theorem dX2_lossesTogether_15 : decode cX2_lossesTogether 15 = .ok (.if_icmp .ge 21, 3) := by decide +kernel
theorem dX2_lossesTogether_18 : decode cX2_lossesTogether 18 = .ok (.iload_n 1, 1) := by decide +kernel
theorem dX2_lossesTogether_19 : decode cX2_lossesTogether 19 = .ok (.aload_n 0, 1) := by decide +kernel
theorem dX2_lossesTogether_20 : decode cX2_lossesTogether 20 = .ok (.getfield 15, 3) := by decide +kernel
theorem dX2_lossesTogether_23 : decode cX2_lossesTogether 23 = .ok (.iload_n 2, 1) := by decide +kernel
theorem dX2_lossesTogether_24 : decode cX2_lossesTogether 24 = .ok (.iaload, 1) := by decide +kernel
theorem dX2_lossesTogether_25 : decode cX2_lossesTogether 25 = .ok (.invokestatic 62, 3) := by decide +kernel
theorem dX2_lossesTogether_28 : decode cX2_lossesTogether 28 = .ok (.iadd, 1) := by decide +kernel
theorem dX2_lossesTogether_29 : decode cX2_lossesTogether 29 = .ok (.istore_n 1, 1) := by decide +kernel
theorem dX2_lossesTogether_30 : decode cX2_lossesTogether 30 = .ok (.iinc 2 1, 3) := by decide +kernel
theorem dX2_lossesTogether_33 : decode cX2_lossesTogether 33 = .ok (.goto (-29), 3) := by decide +kernel
theorem dX2_lossesTogether_36 : decode cX2_lossesTogether 36 = .ok (.iload_n 1, 1) := by decide +kernel
theorem dX2_lossesTogether_37 : decode cX2_lossesTogether 37 = .ok (.ireturn, 1) := by decide +kernel
theorem dX2_isFirstOfItsLevel_0 : decode cX2_isFirstOfItsLevel 0 = .ok (.iconst 0, 1) := by decide +kernel
theorem dX2_isFirstOfItsLevel_1 : decode cX2_isFirstOfItsLevel 1 = .ok (.istore_n 2, 1) := by decide +kernel
theorem dX2_isFirstOfItsLevel_2 : decode cX2_isFirstOfItsLevel 2 = .ok (.iload_n 2, 1) := by decide +kernel
theorem dX2_isFirstOfItsLevel_3 : decode cX2_isFirstOfItsLevel 3 = .ok (.iload_n 1, 1) := by decide +kernel
theorem dX2_isFirstOfItsLevel_4 : decode cX2_isFirstOfItsLevel 4 = .ok (.if_icmp .ge 32, 3) := by decide +kernel
theorem dX2_isFirstOfItsLevel_7 : decode cX2_isFirstOfItsLevel 7 = .ok (.iload_n 2, 1) := by decide +kernel
theorem dX2_isFirstOfItsLevel_8 : decode cX2_isFirstOfItsLevel 8 = .ok (.bipush 40, 2) := by decide +kernel
theorem dX2_isFirstOfItsLevel_10 : decode cX2_isFirstOfItsLevel 10 = .ok (.if_icmp .ge 26, 3) := by decide +kernel
theorem dX2_isFirstOfItsLevel_13 : decode cX2_isFirstOfItsLevel 13 = .ok (.aload_n 0, 1) := by decide +kernel
theorem dX2_isFirstOfItsLevel_14 : decode cX2_isFirstOfItsLevel 14 = .ok (.getfield 15, 3) := by decide +kernel
theorem dX2_isFirstOfItsLevel_17 : decode cX2_isFirstOfItsLevel 17 = .ok (.iload_n 2, 1) := by decide +kernel
theorem dX2_isFirstOfItsLevel_18 : decode cX2_isFirstOfItsLevel 18 = .ok (.iaload, 1) := by decide +kernel
theorem dX2_isFirstOfItsLevel_19 : decode cX2_isFirstOfItsLevel 19 = .ok (.aload_n 0, 1) := by decide +kernel
theorem dX2_isFirstOfItsLevel_20 : decode cX2_isFirstOfItsLevel 20 = .ok (.getfield 15, 3) := by decide +kernel
theorem dX2_isFirstOfItsLevel_23 : decode cX2_isFirstOfItsLevel 23 = .ok (.iload_n 1, 1) := by decide +kernel
theorem dX2_isFirstOfItsLevel_24 : decode cX2_isFirstOfItsLevel 24 = .ok (.iaload, 1) := by decide +kernel
theorem dX2_isFirstOfItsLevel_25 : decode cX2_isFirstOfItsLevel 25 = .ok (.if_icmp .ne 5, 3) := by decide +kernel
theorem dX2_isFirstOfItsLevel_28 : decode cX2_isFirstOfItsLevel 28 = .ok (.iconst 0, 1) := by decide +kernel
theorem dX2_isFirstOfItsLevel_29 : decode cX2_isFirstOfItsLevel 29 = .ok (.ireturn, 1) := by decide +kernel
theorem dX2_isFirstOfItsLevel_30 : decode cX2_isFirstOfItsLevel 30 = .ok (.iinc 2 1, 3) := by decide +kernel
theorem dX2_isFirstOfItsLevel_33 : decode cX2_isFirstOfItsLevel 33 = .ok (.goto (-31), 3) := by decide +kernel
theorem dX2_isFirstOfItsLevel_36 : decode cX2_isFirstOfItsLevel 36 = .ok (.iconst 1, 1) := by decide +kernel
theorem dX2_isFirstOfItsLevel_37 : decode cX2_isFirstOfItsLevel 37 = .ok (.ireturn, 1) := by decide +kernel
set_option maxRecDepth 20000 in
theorem gw_wsX2_isFirstOfItsLevel : wsX2_isFirstOfItsLevel.all goodWord = true := by decide +kernel
set_option maxRecDepth 20000 in
theorem ggX2_howManyLevels_X2_isFirstOfItsLevel : GoodIn wsX2_howManyLevels wsX2_isFirstOfItsLevel := goodIn_sub (List.forall_mem_cons.mpr ⟨(List.mem_cons_of_mem _ (List.mem_append_left _ (List.mem_of_getElem? (i := 5) rfl))), List.forall_mem_append.mpr ⟨List.forall_mem_cons.mpr ⟨(List.mem_cons_of_mem _ (List.mem_append_left _ (List.mem_of_getElem? (i := 6) rfl))), fun _ h => absurd h List.not_mem_nil⟩, fun _ h => (List.mem_cons_of_mem _ (List.mem_append_right _ h))⟩⟩) gw_wsX2_isFirstOfItsLevel
set_option maxRecDepth 20000 in
theorem gX2_howManyLevels_X2_isFirstOfItsLevel : GoodIn wsX2_howManyLevels (wsV RX2 67 RX2 yX2_isFirstOfItsLevel wsX2_isFirstOfItsLevel) := goodIn_app (goodIn_of _ (by decide +kernel)) ggX2_howManyLevels_X2_isFirstOfItsLevel
theorem dX2_howManyLevels_0 : decode cX2_howManyLevels 0 = .ok (.iconst 0, 1) := by decide +kernel
theorem dX2_howManyLevels_1 : decode cX2_howManyLevels 1 = .ok (.istore_n 1, 1) := by decide +kernel
theorem dX2_howManyLevels_2 : decode cX2_howManyLevels 2 = .ok (.iconst 0, 1) := by decide +kernel
theorem dX2_howManyLevels_3 : decode cX2_howManyLevels 3 = .ok (.istore_n 2, 1) := by decide +kernel
theorem dX2_howManyLevels_4 : decode cX2_howManyLevels 4 = .ok (.iload_n 2, 1) := by decide +kernel
theorem dX2_howManyLevels_5 : decode cX2_howManyLevels 5 = .ok (.aload_n 0, 1) := by decide +kernel
theorem dX2_howManyLevels_6 : decode cX2_howManyLevels 6 = .ok (.getfield 18, 3) := by decide +kernel
theorem dX2_howManyLevels_9 : decode cX2_howManyLevels 9 = .ok (.if_icmp .ge 26, 3) := by decide +kernel
theorem dX2_howManyLevels_12 : decode cX2_howManyLevels 12 = .ok (.iload_n 2, 1) := by decide +kernel
theorem dX2_howManyLevels_13 : decode cX2_howManyLevels 13 = .ok (.bipush 40, 2) := by decide +kernel
theorem dX2_howManyLevels_15 : decode cX2_howManyLevels 15 = .ok (.if_icmp .ge 20, 3) := by decide +kernel
theorem dX2_howManyLevels_18 : decode cX2_howManyLevels 18 = .ok (.aload_n 0, 1) := by decide +kernel
theorem dX2_howManyLevels_19 : decode cX2_howManyLevels 19 = .ok (.iload_n 2, 1) := by decide +kernel
theorem dX2_howManyLevels_20 : decode cX2_howManyLevels 20 = .ok (.invokevirtual 67, 3) := by decide +kernel
theorem dX2_howManyLevels_23 : decode cX2_howManyLevels 23 = .ok (.ifCond .eq 6, 3) := by decide +kernel
theorem dX2_howManyLevels_26 : decode cX2_howManyLevels 26 = .ok (.iinc 1 1, 3) := by decide +kernel
theorem dX2_howManyLevels_29 : decode cX2_howManyLevels 29 = .ok (.iinc 2 1, 3) := by decide +kernel
theorem dX2_howManyLevels_32 : decode cX2_howManyLevels 32 = .ok (.goto (-28), 3) := by decide +kernel
theorem dX2_howManyLevels_35 : decode cX2_howManyLevels 35 = .ok (.iload_n 1, 1) := by decide +kernel
theorem dX2_howManyLevels_36 : decode cX2_howManyLevels 36 = .ok (.ireturn, 1) := by decide +kernel
set_option maxRecDepth 20000 in
theorem ggX2_placeOfLevel_X2_isFirstOfItsLevel : GoodIn wsX2_placeOfLevel wsX2_isFirstOfItsLevel := goodIn_sub (List.forall_mem_cons.mpr ⟨(List.mem_cons_of_mem _ (List.mem_append_left _ (List.mem_of_getElem? (i := 5) rfl))), List.forall_mem_append.mpr ⟨List.forall_mem_cons.mpr ⟨(List.mem_cons_of_mem _ (List.mem_append_left _ (List.mem_of_getElem? (i := 6) rfl))), fun _ h => absurd h List.not_mem_nil⟩, fun _ h => (List.mem_cons_of_mem _ (List.mem_append_right _ h))⟩⟩) gw_wsX2_isFirstOfItsLevel
set_option maxRecDepth 20000 in
theorem gX2_placeOfLevel_X2_isFirstOfItsLevel : GoodIn wsX2_placeOfLevel (wsV RX2 67 RX2 yX2_isFirstOfItsLevel wsX2_isFirstOfItsLevel) := goodIn_app (goodIn_of _ (by decide +kernel)) ggX2_placeOfLevel_X2_isFirstOfItsLevel
theorem dX2_placeOfLevel_0 : decode cX2_placeOfLevel 0 = .ok (.iconst (-1), 1) := by decide +kernel
theorem dX2_placeOfLevel_1 : decode cX2_placeOfLevel 1 = .ok (.istore_n 2, 1) := by decide +kernel
theorem dX2_placeOfLevel_2 : decode cX2_placeOfLevel 2 = .ok (.iconst 0, 1) := by decide +kernel
theorem dX2_placeOfLevel_3 : decode cX2_placeOfLevel 3 = .ok (.istore_n 3, 1) := by decide +kernel
theorem dX2_placeOfLevel_4 : decode cX2_placeOfLevel 4 = .ok (.iload_n 3, 1) := by decide +kernel
theorem dX2_placeOfLevel_5 : decode cX2_placeOfLevel 5 = .ok (.aload_n 0, 1) := by decide +kernel
theorem dX2_placeOfLevel_6 : decode cX2_placeOfLevel 6 = .ok (.getfield 18, 3) := by decide +kernel
theorem dX2_placeOfLevel_9 : decode cX2_placeOfLevel 9 = .ok (.if_icmp .ge 33, 3) := by decide +kernel
theorem dX2_placeOfLevel_12 : decode cX2_placeOfLevel 12 = .ok (.iload_n 3, 1) := by decide +kernel
theorem dX2_placeOfLevel_13 : decode cX2_placeOfLevel 13 = .ok (.bipush 40, 2) := by decide +kernel
theorem dX2_placeOfLevel_15 : decode cX2_placeOfLevel 15 = .ok (.if_icmp .ge 27, 3) := by decide +kernel
theorem dX2_placeOfLevel_18 : decode cX2_placeOfLevel 18 = .ok (.aload_n 0, 1) := by decide +kernel
theorem dX2_placeOfLevel_19 : decode cX2_placeOfLevel 19 = .ok (.iload_n 3, 1) := by decide +kernel
theorem dX2_placeOfLevel_20 : decode cX2_placeOfLevel 20 = .ok (.invokevirtual 67, 3) := by decide +kernel
theorem dX2_placeOfLevel_23 : decode cX2_placeOfLevel 23 = .ok (.ifCond .eq 13, 3) := by decide +kernel
theorem dX2_placeOfLevel_26 : decode cX2_placeOfLevel 26 = .ok (.iinc 2 1, 3) := by decide +kernel
theorem dX2_placeOfLevel_29 : decode cX2_placeOfLevel 29 = .ok (.iload_n 2, 1) := by decide +kernel
theorem dX2_placeOfLevel_30 : decode cX2_placeOfLevel 30 = .ok (.iload_n 1, 1) := by decide +kernel
theorem dX2_placeOfLevel_31 : decode cX2_placeOfLevel 31 = .ok (.if_icmp .ne 5, 3) := by decide +kernel
theorem dX2_placeOfLevel_34 : decode cX2_placeOfLevel 34 = .ok (.iload_n 3, 1) := by decide +kernel
theorem dX2_placeOfLevel_35 : decode cX2_placeOfLevel 35 = .ok (.ireturn, 1) := by decide +kernel
theorem dX2_placeOfLevel_36 : decode cX2_placeOfLevel 36 = .ok (.iinc 3 1, 3) := by decide +kernel
theorem dX2_placeOfLevel_39 : decode cX2_placeOfLevel 39 = .ok (.goto (-35), 3) := by decide +kernel
theorem dX2_placeOfLevel_42 : decode cX2_placeOfLevel 42 = .ok (.iconst (-1), 1) := by decide +kernel
theorem dX2_placeOfLevel_43 : decode cX2_placeOfLevel 43 = .ok (.ireturn, 1) := by decide +kernel
theorem dX2_howOften_0 : decode cX2_howOften 0 = .ok (.iconst 0, 1) := by decide +kernel
theorem dX2_howOften_1 : decode cX2_howOften 1 = .ok (.istore_n 2, 1) := by decide +kernel
theorem dX2_howOften_2 : decode cX2_howOften 2 = .ok (.iconst 0, 1) := by decide +kernel
theorem dX2_howOften_3 : decode cX2_howOften 3 = .ok (.istore_n 3, 1) := by decide +kernel
theorem dX2_howOften_4 : decode cX2_howOften 4 = .ok (.iload_n 3, 1) := by decide +kernel
theorem dX2_howOften_5 : decode cX2_howOften 5 = .ok (.aload_n 0, 1) := by decide +kernel
theorem dX2_howOften_6 : decode cX2_howOften 6 = .ok (.getfield 18, 3) := by decide +kernel
theorem dX2_howOften_9 : decode cX2_howOften 9 = .ok (.if_icmp .ge 28, 3) := by decide +kernel
theorem dX2_howOften_12 : decode cX2_howOften 12 = .ok (.iload_n 3, 1) := by decide +kernel
theorem dX2_howOften_13 : decode cX2_howOften 13 = .ok (.bipush 40, 2) := by decide +kernel
theorem dX2_howOften_15 : decode cX2_howOften 15 = .ok (.if_icmp .ge 22, 3) := by decide +kernel
theorem dX2_howOften_18 : decode cX2_howOften 18 = .ok (.aload_n 0, 1) := by decide +kernel
theorem dX2_howOften_19 : decode cX2_howOften 19 = .ok (.getfield 15, 3) := by decide +kernel
theorem dX2_howOften_22 : decode cX2_howOften 22 = .ok (.iload_n 3, 1) := by decide +kernel
theorem dX2_howOften_23 : decode cX2_howOften 23 = .ok (.iaload, 1) := by decide +kernel
theorem dX2_howOften_24 : decode cX2_howOften 24 = .ok (.iload_n 1, 1) := by decide +kernel
theorem dX2_howOften_25 : decode cX2_howOften 25 = .ok (.if_icmp .ne 6, 3) := by decide +kernel
theorem dX2_howOften_28 : decode cX2_howOften 28 = .ok (.iinc 2 1, 3) := by decide +kernel
theorem dX2_howOften_31 : decode cX2_howOften 31 = .ok (.iinc 3 1, 3) := by decide +kernel
theorem dX2_howOften_34 : decode cX2_howOften 34 = .ok (.goto (-30), 3) := by decide +kernel
theorem dX2_howOften_37 : decode cX2_howOften 37 = .ok (.iload_n 2, 1) := by decide +kernel
theorem dX2_howOften_38 : decode cX2_howOften 38 = .ok (.ireturn, 1) := by decide +kernel
theorem dX2_howManyLike_0 : decode cX2_howManyLike 0 = .ok (.iconst 0, 1) := by decide +kernel
theorem dX2_howManyLike_1 : decode cX2_howManyLike 1 = .ok (.istore_n 2, 1) := by decide +kernel
theorem dX2_howManyLike_2 : decode cX2_howManyLike 2 = .ok (.iconst 0, 1) := by decide +kernel
theorem dX2_howManyLike_3 : decode cX2_howManyLike 3 = .ok (.istore_n 3, 1) := by decide +kernel
theorem dX2_howManyLike_4 : decode cX2_howManyLike 4 = .ok (.iload_n 3, 1) := by decide +kernel
theorem dX2_howManyLike_5 : decode cX2_howManyLike 5 = .ok (.aload_n 0, 1) := by decide +kernel
theorem dX2_howManyLike_6 : decode cX2_howManyLike 6 = .ok (.getfield 18, 3) := by decide +kernel
theorem dX2_howManyLike_9 : decode cX2_howManyLike 9 = .ok (.if_icmp .ge 48, 3) := by decide +kernel
theorem dX2_howManyLike_12 : decode cX2_howManyLike 12 = .ok (.iload_n 3, 1) := by decide +kernel
theorem dX2_howManyLike_13 : decode cX2_howManyLike 13 = .ok (.aload_n 1, 1) := by decide +kernel
theorem dX2_howManyLike_14 : decode cX2_howManyLike 14 = .ok (.getfield 32, 3) := by decide +kernel
theorem dX2_howManyLike_17 : decode cX2_howManyLike 17 = .ok (.if_icmp .ge 40, 3) := by decide +kernel
theorem dX2_howManyLike_20 : decode cX2_howManyLike 20 = .ok (.iload_n 3, 1) := by decide +kernel
theorem dX2_howManyLike_21 : decode cX2_howManyLike 21 = .ok (.bipush 40, 2) := by decide +kernel
theorem dX2_howManyLike_23 : decode cX2_howManyLike 23 = .ok (.if_icmp .ge 34, 3) := by decide +kernel
theorem dX2_howManyLike_26 : decode cX2_howManyLike 26 = .ok (.iload_n 2, 1) := by decide +kernel
theorem dX2_howManyLike_27 : decode cX2_howManyLike 27 = .ok (.iload_n 3, 1) := by decide +kernel
theorem dX2_howManyLike_28 : decode cX2_howManyLike 28 = .ok (.if_icmp .ne 29, 3) := by decide +kernel
theorem dX2_howManyLike_31 : decode cX2_howManyLike 31 = .ok (.aload_n 1, 1) := by decide +kernel
theorem dX2_howManyLike_32 : decode cX2_howManyLike 32 = .ok (.getfield 71, 3) := by decide +kernel
theorem dX2_howManyLike_35 : decode cX2_howManyLike 35 = .ok (.iload_n 3, 1) := by decide +kernel
theorem dX2_howManyLike_36 : decode cX2_howManyLike 36 = .ok (.laload, 1) := by decide +kernel
theorem dX2_howManyLike_37 : decode cX2_howManyLike 37 = .ok (.aload_n 0, 1) := by decide +kernel
theorem dX2_howManyLike_38 : decode cX2_howManyLike 38 = .ok (.getfield 9, 3) := by decide +kernel
theorem dX2_howManyLike_41 : decode cX2_howManyLike 41 = .ok (.iload_n 3, 1) := by decide +kernel
theorem dX2_howManyLike_42 : decode cX2_howManyLike 42 = .ok (.iaload, 1) := by decide +kernel
theorem dX2_howManyLike_43 : decode cX2_howManyLike 43 = .ok (.i2l, 1) := by decide +kernel
theorem dX2_howManyLike_44 : decode cX2_howManyLike 44 = .ok (.lcmp, 1) := by decide +kernel
theorem dX2_howManyLike_45 : decode cX2_howManyLike 45 = .ok (.ifCond .ne 6, 3) := by decide +kernel
theorem dX2_howManyLike_48 : decode cX2_howManyLike 48 = .ok (.iinc 2 1, 3) := by decide +kernel
theorem dX2_howManyLike_51 : decode cX2_howManyLike 51 = .ok (.iinc 3 1, 3) := by decide +kernel
theorem dX2_howManyLike_54 : decode cX2_howManyLike 54 = .ok (.goto (-50), 3) := by decide +kernel
theorem dX2_howManyLike_57 : decode cX2_howManyLike 57 = .ok (.iload_n 2, 1) := by decide +kernel
theorem dX2_howManyLike_58 : decode cX2_howManyLike 58 = .ok (.ireturn, 1) := by decide +kernel
set_option maxRecDepth 20000 in
theorem gw_wsX2_howManyLike : wsX2_howManyLike.all goodWord = true := by decide +kernel
set_option maxRecDepth 20000 in
theorem ggX2_hasAsFirst_X2_howManyLike : GoodIn wsX2_hasAsFirst wsX2_howManyLike := goodIn_sub (List.forall_mem_cons.mpr ⟨(List.mem_cons_of_mem _ (List.mem_append_left _ (List.mem_append_left _ (List.mem_of_getElem? (i := 5) rfl)))), List.forall_mem_append.mpr ⟨List.forall_mem_append.mpr ⟨List.forall_mem_cons.mpr ⟨(List.mem_cons_of_mem _ (List.mem_append_left _ (List.mem_append_left _ (List.mem_of_getElem? (i := 6) rfl)))), List.forall_mem_cons.mpr ⟨(List.mem_cons_of_mem _ (List.mem_append_left _ (List.mem_append_left _ (List.mem_of_getElem? (i := 0) rfl)))), List.forall_mem_cons.mpr ⟨(List.mem_cons_of_mem _ (List.mem_append_left _ (List.mem_append_left _ (List.mem_of_getElem? (i := 7) rfl)))), List.forall_mem_cons.mpr ⟨(List.mem_cons_of_mem _ (List.mem_append_left _ (List.mem_append_left _ (List.mem_of_getElem? (i := 8) rfl)))), fun _ h => absurd h List.not_mem_nil⟩⟩⟩⟩, fun _ h => (List.mem_cons_of_mem _ (List.mem_append_right _ h))⟩, fun _ h => (List.mem_cons_of_mem _ (List.mem_append_left _ (List.mem_append_right _ h)))⟩⟩) gw_wsX2_howManyLike
set_option maxRecDepth 20000 in
theorem gX2_hasAsFirst_X2_howManyLike : GoodIn wsX2_hasAsFirst (wsV RX2 75 RX2 yX2_howManyLike wsX2_howManyLike) := goodIn_app (goodIn_of _ (by decide +kernel)) ggX2_hasAsFirst_X2_howManyLike
theorem dX2_hasAsFirst_0 : decode cX2_hasAsFirst 0 = .ok (.aload_n 0, 1) := by decide +kernel
theorem dX2_hasAsFirst_1 : decode cX2_hasAsFirst 1 = .ok (.aload_n 1, 1) := by decide +kernel
theorem dX2_hasAsFirst_2 : decode cX2_hasAsFirst 2 = .ok (.invokevirtual 75, 3) := by decide +kernel
theorem dX2_hasAsFirst_5 : decode cX2_hasAsFirst 5 = .ok (.aload_n 1, 1) := by decide +kernel
theorem dX2_hasAsFirst_6 : decode cX2_hasAsFirst 6 = .ok (.getfield 32, 3) := by decide +kernel
theorem dX2_hasAsFirst_9 : decode cX2_hasAsFirst 9 = .ok (.if_icmp .ne 7, 3) := by decide +kernel
theorem dX2_hasAsFirst_12 : decode cX2_hasAsFirst 12 = .ok (.iconst 1, 1) := by decide +kernel
theorem dX2_hasAsFirst_13 : decode cX2_hasAsFirst 13 = .ok (.goto 4, 3) := by decide +kernel
theorem dX2_hasAsFirst_16 : decode cX2_hasAsFirst 16 = .ok (.iconst 0, 1) := by decide +kernel
theorem dX2_hasAsFirst_17 : decode cX2_hasAsFirst 17 = .ok (.ireturn, 1) := by decide +kernel
theorem dX3_init_0 : decode cX3_init 0 = .ok (.aload_n 0, 1) := by decide +kernel
theorem dX3_init_1 : decode cX3_init 1 = .ok (.invokespecial 3, 3) := by decide +kernel
theorem dX3_init_4 : decode cX3_init 4 = .ok (.aload_n 0, 1) := by decide +kernel
theorem dX3_init_5 : decode cX3_init 5 = .ok (.bipush 10, 2) := by decide +kernel
theorem dX3_init_7 : decode cX3_init 7 = .ok (.newarray .int, 2) := by decide +kernel
theorem dX3_init_9 : decode cX3_init 9 = .ok (.dup, 1) := by decide +kernel
theorem dX3_init_10 : decode cX3_init 10 = .ok (.iconst 0, 1) := by decide +kernel
theorem dX3_init_11 : decode cX3_init 11 = .ok (.iconst 2, 1) := by decide +kernel
theorem dX3_init_12 : decode cX3_init 12 = .ok (.iastore, 1) := by decide +kernel
theorem dX3_init_13 : decode cX3_init 13 = .ok (.dup, 1) := by decide +kernel
theorem dX3_init_14 : decode cX3_init 14 = .ok (.iconst 1, 1) := by decide +kernel
theorem dX3_init_15 : decode cX3_init 15 = .ok (.iconst 4, 1) := by decide +kernel
theorem dX3_init_16 : decode cX3_init 16 = .ok (.iastore, 1) := by decide +kernel
theorem dX3_init_17 : decode cX3_init 17 = .ok (.dup, 1) := by decide +kernel
theorem dX3_init_18 : decode cX3_init 18 = .ok (.iconst 2, 1) := by decide +kernel
theorem dX3_init_19 : decode cX3_init 19 = .ok (.iconst 0, 1) := by decide +kernel
theorem dX3_init_20 : decode cX3_init 20 = .ok (.iastore, 1) := by decide +kernel
theorem dX3_init_21 : decode cX3_init 21 = .ok (.dup, 1) := by decide +kernel
theorem dX3_init_22 : decode cX3_init 22 = .ok (.iconst 3, 1) := by decide +kernel
theorem dX3_init_23 : decode cX3_init 23 = .ok (.iconst 0, 1) := by decide +kernel
theorem dX3_init_24 : decode cX3_init 24 = .ok (.iastore, 1) := by decide +kernel
theorem dX3_init_25 : decode cX3_init 25 = .ok (.dup, 1) := by decide +kernel
theorem dX3_init_26 : decode cX3_init 26 = .ok (.iconst 4, 1) := by decide +kernel
theorem dX3_init_27 : decode cX3_init 27 = .ok (.iconst 0, 1) := by decide +kernel
theorem dX3_init_28 : decode cX3_init 28 = .ok (.iastore, 1) := by decide +kernel
theorem dX3_init_29 : decode cX3_init 29 = .ok (.dup, 1) := by decide +kernel
theorem dX3_init_30 : decode cX3_init 30 = .ok (.iconst 5, 1) := by decide +kernel
theorem dX3_init_31 : decode cX3_init 31 = .ok (.iconst 1, 1) := by decide +kernel
theorem dX3_init_32 : decode cX3_init 32 = .ok (.iastore, 1) := by decide +kernel
theorem dX3_init_33 : decode cX3_init 33 = .ok (.dup, 1) := by decide +kernel
theorem dX3_init_34 : decode cX3_init 34 = .ok (.bipush 6, 2) := by decide +kernel
theorem dX3_init_36 : decode cX3_init 36 = .ok (.iconst 0, 1) := by decide +kernel
theorem dX3_init_37 : decode cX3_init 37 = .ok (.iastore, 1) := by decide +kernel
theorem dX3_init_38 : decode cX3_init 38 = .ok (.dup, 1) := by decide +kernel
theorem dX3_init_39 : decode cX3_init 39 = .ok (.bipush 7, 2) := by decide +kernel
theorem dX3_init_41 : decode cX3_init 41 = .ok (.iconst 0, 1) := by decide +kernel
theorem dX3_init_42 : decode cX3_init 42 = .ok (.iastore, 1) := by decide +kernel
theorem dX3_init_43 : decode cX3_init 43 = .ok (.dup, 1) := by decide +kernel
theorem dX3_init_44 : decode cX3_init 44 = .ok (.bipush 8, 2) := by decide +kernel
theorem dX3_init_46 : decode cX3_init 46 = .ok (.iconst 0, 1) := by decide +kernel
theorem dX3_init_47 : decode cX3_init 47 = .ok (.iastore, 1) := by decide +kernel
theorem dX3_init_48 : decode cX3_init 48 = .ok (.dup, 1) := by decide +kernel
theorem dX3_init_49 : decode cX3_init 49 = .ok (.bipush 9, 2) := by decide +kernel
theorem dX3_init_51 : decode cX3_init 51 = .ok (.iconst 0, 1) := by decide +kernel
theorem dX3_init_52 : decode cX3_init 52 = .ok (.iastore, 1) := by decide +kernel
theorem dX3_init_53 : decode cX3_init 53 = .ok (.putfield 9, 3) := by decide +kernel
theorem dX3_init_56 : decode cX3_init 56 = .ok (.aload_n 0, 1) := by decide +kernel
theorem dX3_init_57 : decode cX3_init 57 = .ok (.iconst 3, 1) := by decide +kernel
theorem dX3_init_58 : decode cX3_init 58 = .ok (.newarray .int, 2) := by decide +kernel
theorem dX3_init_60 : decode cX3_init 60 = .ok (.dup, 1) := by decide +kernel
theorem dX3_init_61 : decode cX3_init 61 = .ok (.iconst 0, 1) := by decide +kernel
theorem dX3_init_62 : decode cX3_init 62 = .ok (.iconst 0, 1) := by decide +kernel
theorem dX3_init_63 : decode cX3_init 63 = .ok (.iastore, 1) := by decide +kernel
theorem dX3_init_64 : decode cX3_init 64 = .ok (.dup, 1) := by decide +kernel
theorem dX3_init_65 : decode cX3_init 65 = .ok (.iconst 1, 1) := by decide +kernel
theorem dX3_init_66 : decode cX3_init 66 = .ok (.iconst 0, 1) := by decide +kernel
theorem dX3_init_67 : decode cX3_init 67 = .ok (.iastore, 1) := by decide +kernel
theorem dX3_init_68 : decode cX3_init 68 = .ok (.dup, 1) := by decide +kernel
theorem dX3_init_69 : decode cX3_init 69 = .ok (.iconst 2, 1) := by decide +kernel
theorem dX3_init_70 : decode cX3_init 70 = .ok (.iconst 0, 1) := by decide +kernel
theorem dX3_init_71 : decode cX3_init 71 = .ok (.iastore, 1) := by decide +kernel
theorem dX3_init_72 : decode cX3_init 72 = .ok (.putfield 15, 3) := by decide +kernel
theorem dX3_init_75 : decode cX3_init 75 = .ok (.aload_n 0, 1) := by decide +kernel
theorem dX3_init_76 : decode cX3_init 76 = .ok (.iconst 0, 1) := by decide +kernel
theorem dX3_init_77 : decode cX3_init 77 = .ok (.putfield 18, 3) := by decide +kernel
theorem dX3_init_80 : decode cX3_init 80 = .ok (.aload_n 0, 1) := by decide +kernel
theorem dX3_init_81 : decode cX3_init 81 = .ok (.iconst 0, 1) := by decide +kernel
theorem dX3_init_82 : decode cX3_init 82 = .ok (.putfield 22, 3) := by decide +kernel
theorem dX3_init_85 : decode cX3_init 85 = .ok (.aload_n 0, 1) := by decide +kernel
theorem dX3_init_86 : decode cX3_init 86 = .ok (.iconst 0, 1) := by decide +kernel
theorem dX3_init_87 : decode cX3_init 87 = .ok (.putfield 25, 3) := by decide +kernel
theorem dX3_init_90 : decode cX3_init 90 = .ok (.aload_n 0, 1) := by decide +kernel
theorem dX3_init_91 : decode cX3_init 91 = .ok (.iconst 0, 1) := by decide +kernel
theorem dX3_init_92 : decode cX3_init 92 = .ok (.putfield 28, 3) := by decide +kernel
theorem dX3_init_95 : decode cX3_init 95 = .ok (.aload_n 0, 1) := by decide +kernel
theorem dX3_init_96 : decode cX3_init 96 = .ok (.iconst 0, 1) := by decide +kernel
theorem dX3_init_97 : decode cX3_init 97 = .ok (.putfield 31, 3) := by decide +kernel
theorem dX3_init_100 : decode cX3_init 100 = .ok (.aload_n 0, 1) := by decide +kernel
theorem dX3_init_101 : decode cX3_init 101 = .ok (.iconst 0, 1) := by decide +kernel
theorem dX3_init_102 : decode cX3_init 102 = .ok (.putfield 35, 3) := by decide +kernel
theorem dX3_init_105 : decode cX3_init 105 = .ok (.aload_n 0, 1) := by decide +kernel
theorem dX3_init_106 : decode cX3_init 106 = .ok (.iconst 0, 1) := by decide +kernel
theorem dX3_init_107 : decode cX3_init 107 = .ok (.putfield 38, 3) := by decide +kernel
theorem dX3_init_110 : decode cX3_init 110 = .ok (.return_, 1) := by decide +kernel
theorem dX3_unit_0 : decode cX3_unit 0 = .ok (.iconst 1, 1) := by decide +kernel
theorem dX3_unit_1 : decode cX3_unit 1 = .ok (.aload_n 0, 1) := by decide +kernel
theorem dX3_unit_2 : decode cX3_unit 2 = .ok (.getfield 9, 3) := by decide +kernel
theorem dX3_unit_5 : decode cX3_unit 5 = .ok (.bipush 6, 2) := by decide +kernel
theorem dX3_unit_7 : decode cX3_unit 7 = .ok (.iaload, 1) := by decide +kernel
theorem dX3_unit_8 : decode cX3_unit 8 = .ok (.ishl, 1) := by decide +kernel
theorem dX3_unit_9 : decode cX3_unit 9 = .ok (.ireturn, 1) := by decide +kernel
theorem dX3_half_0 : decode cX3_half 0 = .ok (.iconst 1, 1) := by decide +kernel
theorem dX3_half_1 : decode cX3_half 1 = .ok (.aload_n 0, 1) := by decide +kernel
theorem dX3_half_2 : decode cX3_half 2 = .ok (.getfield 9, 3) := by decide +kernel
theorem dX3_half_5 : decode cX3_half 5 = .ok (.iconst 1, 1) := by decide +kernel
theorem dX3_half_6 : decode cX3_half 6 = .ok (.iaload, 1) := by decide +kernel
theorem dX3_half_7 : decode cX3_half 7 = .ok (.iconst 1, 1) := by decide +kernel
theorem dX3_half_8 : decode cX3_half 8 = .ok (.isub, 1) := by decide +kernel
theorem dX3_half_9 : decode cX3_half 9 = .ok (.ishl, 1) := by decide +kernel
theorem dX3_half_10 : decode cX3_half 10 = .ok (.ireturn, 1) := by decide +kernel
theorem dX3_howManyPasts_0 : decode cX3_howManyPasts 0 = .ok (.iconst 1, 1) := by decide +kernel
theorem dX3_howManyPasts_1 : decode cX3_howManyPasts 1 = .ok (.aload_n 0, 1) := by decide +kernel
theorem dX3_howManyPasts_2 : decode cX3_howManyPasts 2 = .ok (.getfield 9, 3) := by decide +kernel
theorem dX3_howManyPasts_5 : decode cX3_howManyPasts 5 = .ok (.iconst 0, 1) := by decide +kernel
theorem dX3_howManyPasts_6 : decode cX3_howManyPasts 6 = .ok (.iaload, 1) := by decide +kernel
theorem dX3_howManyPasts_7 : decode cX3_howManyPasts 7 = .ok (.aload_n 0, 1) := by decide +kernel
theorem dX3_howManyPasts_8 : decode cX3_howManyPasts 8 = .ok (.getfield 9, 3) := by decide +kernel
theorem dX3_howManyPasts_11 : decode cX3_howManyPasts 11 = .ok (.iconst 1, 1) := by decide +kernel
theorem dX3_howManyPasts_12 : decode cX3_howManyPasts 12 = .ok (.iaload, 1) := by decide +kernel
theorem dX3_howManyPasts_13 : decode cX3_howManyPasts 13 = .ok (.imul, 1) := by decide +kernel
theorem dX3_howManyPasts_14 : decode cX3_howManyPasts 14 = .ok (.ishl, 1) := by decide +kernel
theorem dX3_howManyPasts_15 : decode cX3_howManyPasts 15 = .ok (.ireturn, 1) := by decide +kernel
set_option maxRecDepth 20000 in
theorem gw_wsX3_half : wsX3_half.all goodWord = true := by decide +kernel
set_option maxRecDepth 20000 in
theorem ggX3_holds_X3_half : GoodIn wsX3_holds wsX3_half := goodIn_sub (List.forall_mem_cons.mpr ⟨(List.mem_cons_of_mem _ (List.mem_append_left _ (List.mem_of_getElem? (i := 4) rfl))), List.forall_mem_append.mpr ⟨List.forall_mem_cons.mpr ⟨(List.mem_cons_of_mem _ (List.mem_append_left _ (List.mem_of_getElem? (i := 5) rfl))), fun _ h => absurd h List.not_mem_nil⟩, fun _ h => (List.mem_cons_of_mem _ (List.mem_append_right _ h))⟩⟩) gw_wsX3_half
set_option maxRecDepth 20000 in
theorem gX3_holds_X3_half : GoodIn wsX3_holds (wsV RX3 41 RX3 yX3_half wsX3_half) := goodIn_app (goodIn_of _ (by decide +kernel)) ggX3_holds_X3_half
theorem dX3_holds_0 : decode cX3_holds 0 = .ok (.iload_n 1, 1) := by decide +kernel
theorem dX3_holds_1 : decode cX3_holds 1 = .ok (.aload_n 0, 1) := by decide +kernel
theorem dX3_holds_2 : decode cX3_holds 2 = .ok (.invokevirtual 41, 3) := by decide +kernel
theorem dX3_holds_5 : decode cX3_holds 5 = .ok (.ineg, 1) := by decide +kernel
theorem dX3_holds_6 : decode cX3_holds 6 = .ok (.if_icmp .lt 15, 3) := by decide +kernel
theorem dX3_holds_9 : decode cX3_holds 9 = .ok (.iload_n 1, 1) := by decide +kernel
theorem dX3_holds_10 : decode cX3_holds 10 = .ok (.aload_n 0, 1) := by decide +kernel
theorem dX3_holds_11 : decode cX3_holds 11 = .ok (.invokevirtual 41, 3) := by decide +kernel
theorem dX3_holds_14 : decode cX3_holds 14 = .ok (.if_icmp .ge 7, 3) := by decide +kernel
theorem dX3_holds_17 : decode cX3_holds 17 = .ok (.iconst 1, 1) := by decide +kernel
theorem dX3_holds_18 : decode cX3_holds 18 = .ok (.goto 4, 3) := by decide +kernel
theorem dX3_holds_21 : decode cX3_holds 21 = .ok (.iconst 0, 1) := by decide +kernel
theorem dX3_holds_22 : decode cX3_holds 22 = .ok (.ireturn, 1) := by decide +kernel
theorem dX3_isTooLargeWith_0 : decode cX3_isTooLargeWith 0 = .ok (.iload_n 1, 1) := by decide +kernel
theorem dX3_isTooLargeWith_1 : decode cX3_isTooLargeWith 1 = .ok (.ifCond .ne 7, 3) := by decide +kernel
theorem dX3_isTooLargeWith_4 : decode cX3_isTooLargeWith 4 = .ok (.iload_n 2, 1) := by decide +kernel
theorem dX3_isTooLargeWith_5 : decode cX3_isTooLargeWith 5 = .ok (.goto 9, 3) := by decide +kernel
theorem dX3_isTooLargeWith_8 : decode cX3_isTooLargeWith 8 = .ok (.aload_n 0, 1) := by decide +kernel
theorem dX3_isTooLargeWith_9 : decode cX3_isTooLargeWith 9 = .ok (.getfield 9, 3) := by decide +kernel
theorem dX3_isTooLargeWith_12 : decode cX3_isTooLargeWith 12 = .ok (.iconst 0, 1) := by decide +kernel
theorem dX3_isTooLargeWith_13 : decode cX3_isTooLargeWith 13 = .ok (.iaload, 1) := by decide +kernel
theorem dX3_isTooLargeWith_14 : decode cX3_isTooLargeWith 14 = .ok (.istore_n 3, 1) := by decide +kernel
theorem dX3_isTooLargeWith_15 : decode cX3_isTooLargeWith 15 = .ok (.iload_n 1, 1) := by decide +kernel
theorem dX3_isTooLargeWith_16 : decode cX3_isTooLargeWith 16 = .ok (.iconst 1, 1) := by decide +kernel
theorem dX3_isTooLargeWith_17 : decode cX3_isTooLargeWith 17 = .ok (.if_icmp .ne 7, 3) := by decide +kernel
theorem dX3_isTooLargeWith_20 : decode cX3_isTooLargeWith 20 = .ok (.iload_n 2, 1) := by decide +kernel
theorem dX3_isTooLargeWith_21 : decode cX3_isTooLargeWith 21 = .ok (.goto 9, 3) := by decide +kernel
theorem dX3_isTooLargeWith_24 : decode cX3_isTooLargeWith 24 = .ok (.aload_n 0, 1) := by decide +kernel
theorem dX3_isTooLargeWith_25 : decode cX3_isTooLargeWith 25 = .ok (.getfield 9, 3) := by decide +kernel
theorem dX3_isTooLargeWith_28 : decode cX3_isTooLargeWith 28 = .ok (.iconst 1, 1) := by decide +kernel
theorem dX3_isTooLargeWith_29 : decode cX3_isTooLargeWith 29 = .ok (.iaload, 1) := by decide +kernel
theorem dX3_isTooLargeWith_30 : decode cX3_isTooLargeWith 30 = .ok (.istore 4, 2) := by decide +kernel
theorem dX3_isTooLargeWith_32 : decode cX3_isTooLargeWith 32 = .ok (.iload_n 3, 1) := by decide +kernel
theorem dX3_isTooLargeWith_33 : decode cX3_isTooLargeWith 33 = .ok (.iload 4, 2) := by decide +kernel
theorem dX3_isTooLargeWith_35 : decode cX3_isTooLargeWith 35 = .ok (.imul, 1) := by decide +kernel
theorem dX3_isTooLargeWith_36 : decode cX3_isTooLargeWith 36 = .ok (.bipush 10, 2) := by decide +kernel
theorem dX3_isTooLargeWith_38 : decode cX3_isTooLargeWith 38 = .ok (.if_icmp .le 7, 3) := by decide +kernel
theorem dX3_isTooLargeWith_41 : decode cX3_isTooLargeWith 41 = .ok (.iconst 1, 1) := by decide +kernel
theorem dX3_isTooLargeWith_42 : decode cX3_isTooLargeWith 42 = .ok (.goto 4, 3) := by decide +kernel
theorem dX3_isTooLargeWith_45 : decode cX3_isTooLargeWith 45 = .ok (.iconst 0, 1) := by decide +kernel
theorem dX3_isTooLargeWith_46 : decode cX3_isTooLargeWith 46 = .ok (.ireturn, 1) := by decide +kernel
theorem dX3_become_0 : decode cX3_become 0 = .ok (.iload_n 1, 1) := by decide +kernel
theorem dX3_become_1 : decode cX3_become 1 = .ok (.ifCond .lt 19, 3) := by decide +kernel
theorem dX3_become_4 : decode cX3_become 4 = .ok (.iload_n 1, 1) := by decide +kernel
theorem dX3_become_5 : decode cX3_become 5 = .ok (.bipush 10, 2) := by decide +kernel
theorem dX3_become_7 : decode cX3_become 7 = .ok (.if_icmp .ge 13, 3) := by decide +kernel
theorem dX3_become_10 : decode cX3_become 10 = .ok (.aload_n 0, 1) := by decide +kernel
theorem dX3_become_11 : decode cX3_become 11 = .ok (.getfield 9, 3) := by decide +kernel
theorem dX3_become_14 : decode cX3_become 14 = .ok (.iload_n 1, 1) := by decide +kernel
theorem dX3_become_15 : decode cX3_become 15 = .ok (.iaload, 1) := by decide +kernel
theorem dX3_become_16 : decode cX3_become 16 = .ok (.iload_n 2, 1) := by decide +kernel
theorem dX3_become_17 : decode cX3_become 17 = .ok (.if_icmp .ne 4, 3) := by decide +kernel
theorem dX3_become_20 : decode cX3_become 20 = .ok (.return_, 1) := by decide +kernel
theorem dX3_become_21 : decode cX3_become 21 = .ok (.aload_n 0, 1) := by decide +kernel
theorem dX3_become_22 : decode cX3_become 22 = .ok (.getfield 9, 3) := by decide +kernel
theorem dX3_become_25 : decode cX3_become 25 = .ok (.iload_n 1, 1) := by decide +kernel
theorem dX3_become_26 : decode cX3_become 26 = .ok (.iload_n 2, 1) := by decide +kernel
theorem dX3_become_27 : decode cX3_become 27 = .ok (.iastore, 1) := by decide +kernel
theorem dX3_become_28 : decode cX3_become 28 = .ok (.iload_n 1, 1) := by decide +kernel
theorem dX3_become_29 : decode cX3_become 29 = .ok (.ifCond .eq 8, 3) := by decide +kernel
theorem dX3_become_32 : decode cX3_become 32 = .ok (.iload_n 1, 1) := by decide +kernel
theorem dX3_become_33 : decode cX3_become 33 = .ok (.iconst 1, 1) := by decide +kernel
theorem dX3_become_34 : decode cX3_become 34 = .ok (.if_icmp .ne 27, 3) := by decide +kernel
theorem dX3_become_37 : decode cX3_become 37 = .ok (.iconst 0, 1) := by decide +kernel
theorem dX3_become_38 : decode cX3_become 38 = .ok (.istore_n 3, 1) := by decide +kernel
theorem dX3_become_39 : decode cX3_become 39 = .ok (.iload_n 3, 1) := by decide +kernel
theorem dX3_become_40 : decode cX3_become 40 = .ok (.aload_n 0, 1) := by decide +kernel
theorem dX3_become_41 : decode cX3_become 41 = .ok (.getfield 15, 3) := by decide +kernel
theorem dX3_become_44 : decode cX3_become 44 = .ok (.arraylength, 1) := by decide +kernel
theorem dX3_become_45 : decode cX3_become 45 = .ok (.if_icmp .ge 16, 3) := by decide +kernel
theorem dX3_become_48 : decode cX3_become 48 = .ok (.aload_n 0, 1) := by decide +kernel
theorem dX3_become_49 : decode cX3_become 49 = .ok (.getfield 15, 3) := by decide +kernel
theorem dX3_become_52 : decode cX3_become 52 = .ok (.iload_n 3, 1) := by decide +kernel
theorem dX3_become_53 : decode cX3_become 53 = .ok (.iconst 0, 1) := by decide +kernel
theorem dX3_become_54 : decode cX3_become 54 = .ok (.iastore, 1) := by decide +kernel
theorem dX3_become_55 : decode cX3_become 55 = .ok (.iinc 3 1, 3) := by decide +kernel
theorem dX3_become_58 : decode cX3_become 58 = .ok (.goto (-19), 3) := by decide +kernel
theorem dX3_become_61 : decode cX3_become 61 = .ok (.return_, 1) := by decide +kernel
theorem dX3_take_0 : decode cX3_take 0 = .ok (.aload_n 1, 1) := by decide +kernel
theorem dX3_take_1 : decode cX3_take 1 = .ok (.getfield 9, 3) := by decide +kernel
theorem dX3_take_4 : decode cX3_take 4 = .ok (.iconst 0, 1) := by decide +kernel
theorem dX3_take_5 : decode cX3_take 5 = .ok (.aload_n 0, 1) := by decide +kernel
theorem dX3_take_6 : decode cX3_take 6 = .ok (.getfield 9, 3) := by decide +kernel
theorem dX3_take_9 : decode cX3_take 9 = .ok (.iconst 0, 1) := by decide +kernel
theorem dX3_take_10 : decode cX3_take 10 = .ok (.bipush 10, 2) := by decide +kernel
theorem dX3_take_12 : decode cX3_take 12 = .ok (.invokestatic 45, 3) := by decide +kernel
theorem dX3_take_15 : decode cX3_take 15 = .ok (.aload_n 1, 1) := by decide +kernel
theorem dX3_take_16 : decode cX3_take 16 = .ok (.getfield 15, 3) := by decide +kernel
theorem dX3_take_19 : decode cX3_take 19 = .ok (.iconst 0, 1) := by decide +kernel
theorem dX3_take_20 : decode cX3_take 20 = .ok (.aload_n 0, 1) := by decide +kernel
theorem dX3_take_21 : decode cX3_take 21 = .ok (.getfield 15, 3) := by decide +kernel
theorem dX3_take_24 : decode cX3_take 24 = .ok (.iconst 0, 1) := by decide +kernel
theorem dX3_take_25 : decode cX3_take 25 = .ok (.iconst 3, 1) := by decide +kernel
theorem dX3_take_26 : decode cX3_take 26 = .ok (.invokestatic 45, 3) := by decide +kernel
theorem dX3_take_29 : decode cX3_take 29 = .ok (.return_, 1) := by decide +kernel
theorem dX3_hasNumbersOf_0 : decode cX3_hasNumbersOf 0 = .ok (.iconst 0, 1) := by decide +kernel
theorem dX3_hasNumbersOf_1 : decode cX3_hasNumbersOf 1 = .ok (.istore_n 2, 1) := by decide +kernel
theorem dX3_hasNumbersOf_2 : decode cX3_hasNumbersOf 2 = .ok (.iload_n 2, 1) := by decide +kernel
theorem dX3_hasNumbersOf_3 : decode cX3_hasNumbersOf 3 = .ok (.bipush 10, 2) := by decide +kernel
theorem dX3_hasNumbersOf_5 : decode cX3_hasNumbersOf 5 = .ok (.if_icmp .ge 26, 3) := by decide +kernel
theorem dX3_hasNumbersOf_8 : decode cX3_hasNumbersOf 8 = .ok (.aload_n 0, 1) := by decide +kernel
theorem dX3_hasNumbersOf_9 : decode cX3_hasNumbersOf 9 = .ok (.getfield 9, 3) := by decide +kernel
theorem dX3_hasNumbersOf_12 : decode cX3_hasNumbersOf 12 = .ok (.iload_n 2, 1) := by decide +kernel
theorem dX3_hasNumbersOf_13 : decode cX3_hasNumbersOf 13 = .ok (.iaload, 1) := by decide +kernel
theorem dX3_hasNumbersOf_14 : decode cX3_hasNumbersOf 14 = .ok (.aload_n 1, 1) := by decide +kernel
theorem dX3_hasNumbersOf_15 : decode cX3_hasNumbersOf 15 = .ok (.getfield 9, 3) := by decide +kernel
theorem dX3_hasNumbersOf_18 : decode cX3_hasNumbersOf 18 = .ok (.iload_n 2, 1) := by decide +kernel
theorem dX3_hasNumbersOf_19 : decode cX3_hasNumbersOf 19 = .ok (.iaload, 1) := by decide +kernel
theorem dX3_hasNumbersOf_20 : decode cX3_hasNumbersOf 20 = .ok (.if_icmp .eq 5, 3) := by decide +kernel
theorem dX3_hasNumbersOf_23 : decode cX3_hasNumbersOf 23 = .ok (.iconst 0, 1) := by decide +kernel
theorem dX3_hasNumbersOf_24 : decode cX3_hasNumbersOf 24 = .ok (.ireturn, 1) := by decide +kernel
theorem dX3_hasNumbersOf_25 : decode cX3_hasNumbersOf 25 = .ok (.iinc 2 1, 3) := by decide +kernel
theorem dX3_hasNumbersOf_28 : decode cX3_hasNumbersOf 28 = .ok (.goto (-26), 3) := by decide +kernel
theorem dX3_hasNumbersOf_31 : decode cX3_hasNumbersOf 31 = .ok (.iconst 1, 1) := by decide +kernel
theorem dX3_hasNumbersOf_32 : decode cX3_hasNumbersOf 32 = .ok (.ireturn, 1) := by decide +kernel
theorem dX3_hasWordsOf_0 : decode cX3_hasWordsOf 0 = .ok (.iconst 0, 1) := by decide +kernel
theorem dX3_hasWordsOf_1 : decode cX3_hasWordsOf 1 = .ok (.istore_n 2, 1) := by decide +kernel
theorem dX3_hasWordsOf_2 : decode cX3_hasWordsOf 2 = .ok (.iload_n 2, 1) := by decide +kernel
theorem dX3_hasWordsOf_3 : decode cX3_hasWordsOf 3 = .ok (.iconst 3, 1) := by decide +kernel
theorem dX3_hasWordsOf_4 : decode cX3_hasWordsOf 4 = .ok (.if_icmp .ge 26, 3) := by decide +kernel
theorem dX3_hasWordsOf_7 : decode cX3_hasWordsOf 7 = .ok (.aload_n 0, 1) := by decide +kernel
theorem dX3_hasWordsOf_8 : decode cX3_hasWordsOf 8 = .ok (.getfield 15, 3) := by decide +kernel
theorem dX3_hasWordsOf_11 : decode cX3_hasWordsOf 11 = .ok (.iload_n 2, 1) := by decide +kernel
theorem dX3_hasWordsOf_12 : decode cX3_hasWordsOf 12 = .ok (.iaload, 1) := by decide +kernel
theorem dX3_hasWordsOf_13 : decode cX3_hasWordsOf 13 = .ok (.aload_n 1, 1) := by decide +kernel
theorem dX3_hasWordsOf_14 : decode cX3_hasWordsOf 14 = .ok (.getfield 15, 3) := by decide +kernel
theorem dX3_hasWordsOf_17 : decode cX3_hasWordsOf 17 = .ok (.iload_n 2, 1) := by decide +kernel
theorem dX3_hasWordsOf_18 : decode cX3_hasWordsOf 18 = .ok (.iaload, 1) := by decide +kernel
theorem dX3_hasWordsOf_19 : decode cX3_hasWordsOf 19 = .ok (.if_icmp .eq 5, 3) := by decide +kernel
theorem dX3_hasWordsOf_22 : decode cX3_hasWordsOf 22 = .ok (.iconst 0, 1) := by decide +kernel
theorem dX3_hasWordsOf_23 : decode cX3_hasWordsOf 23 = .ok (.ireturn, 1) := by decide +kernel
theorem dX3_hasWordsOf_24 : decode cX3_hasWordsOf 24 = .ok (.iinc 2 1, 3) := by decide +kernel
theorem dX3_hasWordsOf_27 : decode cX3_hasWordsOf 27 = .ok (.goto (-25), 3) := by decide +kernel
theorem dX3_hasWordsOf_30 : decode cX3_hasWordsOf 30 = .ok (.iconst 1, 1) := by decide +kernel
theorem dX3_hasWordsOf_31 : decode cX3_hasWordsOf 31 = .ok (.ireturn, 1) := by decide +kernel
set_option maxRecDepth 20000 in
theorem ggX3_packed_X3_half : GoodIn wsX3_packed wsX3_half := goodIn_sub (List.forall_mem_cons.mpr ⟨(List.mem_cons_of_mem _ (List.mem_append_left _ (List.mem_of_getElem? (i := 6) rfl))), List.forall_mem_append.mpr ⟨List.forall_mem_cons.mpr ⟨(List.mem_cons_of_mem _ (List.mem_append_left _ (List.mem_of_getElem? (i := 0) rfl))), fun _ h => absurd h List.not_mem_nil⟩, fun _ h => (List.mem_cons_of_mem _ (List.mem_append_right _ h))⟩⟩) gw_wsX3_half
set_option maxRecDepth 20000 in
theorem gX3_packed_X3_half : GoodIn wsX3_packed (wsV RX3 41 RX3 yX3_half wsX3_half) := goodIn_app (goodIn_of _ (by decide +kernel)) ggX3_packed_X3_half
theorem dX3_packed_0 : decode cX3_packed 0 = .ok (.iconst 0, 1) := by decide +kernel
theorem dX3_packed_1 : decode cX3_packed 1 = .ok (.istore_n 1, 1) := by decide +kernel
theorem dX3_packed_2 : decode cX3_packed 2 = .ok (.iconst 0, 1) := by decide +kernel
theorem dX3_packed_3 : decode cX3_packed 3 = .ok (.istore_n 2, 1) := by decide +kernel
theorem dX3_packed_4 : decode cX3_packed 4 = .ok (.iload_n 2, 1) := by decide +kernel
theorem dX3_packed_5 : decode cX3_packed 5 = .ok (.aload_n 0, 1) := by decide +kernel
theorem dX3_packed_6 : decode cX3_packed 6 = .ok (.getfield 9, 3) := by decide +kernel
theorem dX3_packed_9 : decode cX3_packed 9 = .ok (.iconst 0, 1) := by decide +kernel
theorem dX3_packed_10 : decode cX3_packed 10 = .ok (.iaload, 1) := by decide +kernel
theorem dX3_packed_11 : decode cX3_packed 11 = .ok (.if_icmp .ge 35, 3) := by decide +kernel
theorem dX3_packed_14 : decode cX3_packed 14 = .ok (.iload_n 2, 1) := by decide +kernel
theorem dX3_packed_15 : decode cX3_packed 15 = .ok (.iconst 3, 1) := by decide +kernel
theorem dX3_packed_16 : decode cX3_packed 16 = .ok (.if_icmp .ge 30, 3) := by decide +kernel
theorem dX3_packed_19 : decode cX3_packed 19 = .ok (.iload_n 1, 1) := by decide +kernel
theorem dX3_packed_20 : decode cX3_packed 20 = .ok (.aload_n 0, 1) := by decide +kernel
theorem dX3_packed_21 : decode cX3_packed 21 = .ok (.getfield 9, 3) := by decide +kernel
theorem dX3_packed_24 : decode cX3_packed 24 = .ok (.iconst 1, 1) := by decide +kernel
theorem dX3_packed_25 : decode cX3_packed 25 = .ok (.iaload, 1) := by decide +kernel
theorem dX3_packed_26 : decode cX3_packed 26 = .ok (.ishl, 1) := by decide +kernel
theorem dX3_packed_27 : decode cX3_packed 27 = .ok (.aload_n 0, 1) := by decide +kernel
theorem dX3_packed_28 : decode cX3_packed 28 = .ok (.getfield 15, 3) := by decide +kernel
theorem dX3_packed_31 : decode cX3_packed 31 = .ok (.iload_n 2, 1) := by decide +kernel
theorem dX3_packed_32 : decode cX3_packed 32 = .ok (.iaload, 1) := by decide +kernel
theorem dX3_packed_33 : decode cX3_packed 33 = .ok (.iadd, 1) := by decide +kernel
theorem dX3_packed_34 : decode cX3_packed 34 = .ok (.aload_n 0, 1) := by decide +kernel
theorem dX3_packed_35 : decode cX3_packed 35 = .ok (.invokevirtual 41, 3) := by decide +kernel
theorem dX3_packed_38 : decode cX3_packed 38 = .ok (.iadd, 1) := by decide +kernel
theorem dX3_packed_39 : decode cX3_packed 39 = .ok (.istore_n 1, 1) := by decide +kernel
theorem dX3_packed_40 : decode cX3_packed 40 = .ok (.iinc 2 1, 3) := by decide +kernel
theorem dX3_packed_43 : decode cX3_packed 43 = .ok (.goto (-39), 3) := by decide +kernel
theorem dX3_packed_46 : decode cX3_packed 46 = .ok (.iload_n 1, 1) := by decide +kernel
theorem dX3_packed_47 : decode cX3_packed 47 = .ok (.ireturn, 1) := by decide +kernel
set_option maxRecDepth 20000 in
theorem ggX3_unpack_X3_half : GoodIn wsX3_unpack wsX3_half := goodIn_sub (List.forall_mem_cons.mpr ⟨(List.mem_cons_of_mem _ (List.mem_append_left _ (List.mem_of_getElem? (i := 10) rfl))), List.forall_mem_append.mpr ⟨List.forall_mem_cons.mpr ⟨(List.mem_cons_of_mem _ (List.mem_append_left _ (List.mem_of_getElem? (i := 0) rfl))), fun _ h => absurd h List.not_mem_nil⟩, fun _ h => (List.mem_cons_of_mem _ (List.mem_append_right _ h))⟩⟩) gw_wsX3_half
set_option maxRecDepth 20000 in
theorem gX3_unpack_X3_half : GoodIn wsX3_unpack (wsV RX3 41 RX3 yX3_half wsX3_half) := goodIn_app (goodIn_of _ (by decide +kernel)) ggX3_unpack_X3_half
theorem dX3_unpack_0 : decode cX3_unpack 0 = .ok (.iload_n 1, 1) := by decide +kernel
theorem dX3_unpack_1 : decode cX3_unpack 1 = .ok (.istore_n 2, 1) := by decide +kernel
theorem dX3_unpack_2 : decode cX3_unpack 2 = .ok (.aload_n 0, 1) := by decide +kernel
theorem dX3_unpack_3 : decode cX3_unpack 3 = .ok (.getfield 9, 3) := by decide +kernel
theorem dX3_unpack_6 : decode cX3_unpack 6 = .ok (.iconst 0, 1) := by decide +kernel
theorem dX3_unpack_7 : decode cX3_unpack 7 = .ok (.iaload, 1) := by decide +kernel
theorem dX3_unpack_8 : decode cX3_unpack 8 = .ok (.iconst 3, 1) := by decide +kernel
theorem dX3_unpack_9 : decode cX3_unpack 9 = .ok (.invokestatic 51, 3) := by decide +kernel
theorem dX3_unpack_12 : decode cX3_unpack 12 = .ok (.iconst 1, 1) := by decide +kernel
theorem dX3_unpack_13 : decode cX3_unpack 13 = .ok (.isub, 1) := by decide +kernel
theorem dX3_unpack_14 : decode cX3_unpack 14 = .ok (.istore_n 3, 1) := by decide +kernel
theorem dX3_unpack_15 : decode cX3_unpack 15 = .ok (.iload_n 3, 1) := by decide +kernel
theorem dX3_unpack_16 : decode cX3_unpack 16 = .ok (.ifCond .lt 39, 3) := by decide +kernel
theorem dX3_unpack_19 : decode cX3_unpack 19 = .ok (.aload_n 0, 1) := by decide +kernel
theorem dX3_unpack_20 : decode cX3_unpack 20 = .ok (.getfield 15, 3) := by decide +kernel
theorem dX3_unpack_23 : decode cX3_unpack 23 = .ok (.iload_n 3, 1) := by decide +kernel
theorem dX3_unpack_24 : decode cX3_unpack 24 = .ok (.iload_n 2, 1) := by decide +kernel
theorem dX3_unpack_25 : decode cX3_unpack 25 = .ok (.iconst 2, 1) := by decide +kernel
theorem dX3_unpack_26 : decode cX3_unpack 26 = .ok (.aload_n 0, 1) := by decide +kernel
theorem dX3_unpack_27 : decode cX3_unpack 27 = .ok (.invokevirtual 41, 3) := by decide +kernel
theorem dX3_unpack_30 : decode cX3_unpack 30 = .ok (.imul, 1) := by decide +kernel
theorem dX3_unpack_31 : decode cX3_unpack 31 = .ok (.iconst 1, 1) := by decide +kernel
theorem dX3_unpack_32 : decode cX3_unpack 32 = .ok (.isub, 1) := by decide +kernel
theorem dX3_unpack_33 : decode cX3_unpack 33 = .ok (.iand, 1) := by decide +kernel
theorem dX3_unpack_34 : decode cX3_unpack 34 = .ok (.aload_n 0, 1) := by decide +kernel
theorem dX3_unpack_35 : decode cX3_unpack 35 = .ok (.invokevirtual 41, 3) := by decide +kernel
theorem dX3_unpack_38 : decode cX3_unpack 38 = .ok (.isub, 1) := by decide +kernel
theorem dX3_unpack_39 : decode cX3_unpack 39 = .ok (.iastore, 1) := by decide +kernel
theorem dX3_unpack_40 : decode cX3_unpack 40 = .ok (.iload_n 2, 1) := by decide +kernel
theorem dX3_unpack_41 : decode cX3_unpack 41 = .ok (.aload_n 0, 1) := by decide +kernel
theorem dX3_unpack_42 : decode cX3_unpack 42 = .ok (.getfield 9, 3) := by decide +kernel
theorem dX3_unpack_45 : decode cX3_unpack 45 = .ok (.iconst 1, 1) := by decide +kernel
theorem dX3_unpack_46 : decode cX3_unpack 46 = .ok (.iaload, 1) := by decide +kernel
theorem dX3_unpack_47 : decode cX3_unpack 47 = .ok (.ishr, 1) := by decide +kernel
theorem dX3_unpack_48 : decode cX3_unpack 48 = .ok (.istore_n 2, 1) := by decide +kernel
theorem dX3_unpack_49 : decode cX3_unpack 49 = .ok (.iinc 3 (-1), 3) := by decide +kernel
theorem dX3_unpack_52 : decode cX3_unpack 52 = .ok (.goto (-37), 3) := by decide +kernel
theorem dX3_unpack_55 : decode cX3_unpack 55 = .ok (.return_, 1) := by decide +kernel
set_option maxRecDepth 20000 in
theorem ggX3_latestIn_X3_half : GoodIn wsX3_latestIn wsX3_half := goodIn_sub (List.forall_mem_cons.mpr ⟨(List.mem_cons_of_mem _ (List.mem_append_left _ (List.mem_of_getElem? (i := 5) rfl))), List.forall_mem_append.mpr ⟨List.forall_mem_cons.mpr ⟨(List.mem_cons_of_mem _ (List.mem_append_left _ (List.mem_of_getElem? (i := 0) rfl))), fun _ h => absurd h List.not_mem_nil⟩, fun _ h => (List.mem_cons_of_mem _ (List.mem_append_right _ h))⟩⟩) gw_wsX3_half
set_option maxRecDepth 20000 in
theorem gX3_latestIn_X3_half : GoodIn wsX3_latestIn (wsV RX3 41 RX3 yX3_half wsX3_half) := goodIn_app (goodIn_of _ (by decide +kernel)) ggX3_latestIn_X3_half
theorem dX3_latestIn_0 : decode cX3_latestIn 0 = .ok (.iload_n 1, 1) := by decide +kernel
theorem dX3_latestIn_1 : decode cX3_latestIn 1 = .ok (.aload_n 0, 1) := by decide +kernel
theorem dX3_latestIn_2 : decode cX3_latestIn 2 = .ok (.getfield 9, 3) := by decide +kernel
theorem dX3_latestIn_5 : decode cX3_latestIn 5 = .ok (.iconst 1, 1) := by decide +kernel
theorem dX3_latestIn_6 : decode cX3_latestIn 6 = .ok (.iaload, 1) := by decide +kernel
theorem dX3_latestIn_7 : decode cX3_latestIn 7 = .ok (.aload_n 0, 1) := by decide +kernel
theorem dX3_latestIn_8 : decode cX3_latestIn 8 = .ok (.getfield 9, 3) := by decide +kernel
theorem dX3_latestIn_11 : decode cX3_latestIn 11 = .ok (.iconst 0, 1) := by decide +kernel
theorem dX3_latestIn_12 : decode cX3_latestIn 12 = .ok (.iaload, 1) := by decide +kernel
theorem dX3_latestIn_13 : decode cX3_latestIn 13 = .ok (.iconst 1, 1) := by decide +kernel
theorem dX3_latestIn_14 : decode cX3_latestIn 14 = .ok (.isub, 1) := by decide +kernel
theorem dX3_latestIn_15 : decode cX3_latestIn 15 = .ok (.imul, 1) := by decide +kernel
theorem dX3_latestIn_16 : decode cX3_latestIn 16 = .ok (.ishr, 1) := by decide +kernel
theorem dX3_latestIn_17 : decode cX3_latestIn 17 = .ok (.aload_n 0, 1) := by decide +kernel
theorem dX3_latestIn_18 : decode cX3_latestIn 18 = .ok (.invokevirtual 41, 3) := by decide +kernel
theorem dX3_latestIn_21 : decode cX3_latestIn 21 = .ok (.isub, 1) := by decide +kernel
theorem dX3_latestIn_22 : decode cX3_latestIn 22 = .ok (.ireturn, 1) := by decide +kernel
set_option maxRecDepth 20000 in
theorem ggX3_codeBehind_X3_half : GoodIn wsX3_codeBehind wsX3_half := goodIn_sub (List.forall_mem_cons.mpr ⟨(List.mem_cons_of_mem _ (List.mem_append_left _ (List.mem_of_getElem? (i := 6) rfl))), List.forall_mem_append.mpr ⟨List.forall_mem_cons.mpr ⟨(List.mem_cons_of_mem _ (List.mem_append_left _ (List.mem_of_getElem? (i := 1) rfl))), fun _ h => absurd h List.not_mem_nil⟩, fun _ h => (List.mem_cons_of_mem _ (List.mem_append_right _ h))⟩⟩) gw_wsX3_half
set_option maxRecDepth 20000 in
theorem gX3_codeBehind_X3_half : GoodIn wsX3_codeBehind (wsV RX3 41 RX3 yX3_half wsX3_half) := goodIn_app (goodIn_of _ (by decide +kernel)) ggX3_codeBehind_X3_half
theorem dX3_codeBehind_0 : decode cX3_codeBehind 0 = .ok (.aload_n 0, 1) := by decide +kernel
theorem dX3_codeBehind_1 : decode cX3_codeBehind 1 = .ok (.getfield 28, 3) := by decide +kernel
theorem dX3_codeBehind_4 : decode cX3_codeBehind 4 = .ok (.aload_n 0, 1) := by decide +kernel
theorem dX3_codeBehind_5 : decode cX3_codeBehind 5 = .ok (.invokevirtual 41, 3) := by decide +kernel
theorem dX3_codeBehind_8 : decode cX3_codeBehind 8 = .ok (.iadd, 1) := by decide +kernel
theorem dX3_codeBehind_9 : decode cX3_codeBehind 9 = .ok (.aload_n 0, 1) := by decide +kernel
theorem dX3_codeBehind_10 : decode cX3_codeBehind 10 = .ok (.getfield 9, 3) := by decide +kernel
theorem dX3_codeBehind_13 : decode cX3_codeBehind 13 = .ok (.iconst 1, 1) := by decide +kernel
theorem dX3_codeBehind_14 : decode cX3_codeBehind 14 = .ok (.iaload, 1) := by decide +kernel
theorem dX3_codeBehind_15 : decode cX3_codeBehind 15 = .ok (.aload_n 0, 1) := by decide +kernel
theorem dX3_codeBehind_16 : decode cX3_codeBehind 16 = .ok (.getfield 9, 3) := by decide +kernel
theorem dX3_codeBehind_19 : decode cX3_codeBehind 19 = .ok (.iconst 0, 1) := by decide +kernel
theorem dX3_codeBehind_20 : decode cX3_codeBehind 20 = .ok (.iaload, 1) := by decide +kernel
theorem dX3_codeBehind_21 : decode cX3_codeBehind 21 = .ok (.iconst 1, 1) := by decide +kernel
theorem dX3_codeBehind_22 : decode cX3_codeBehind 22 = .ok (.isub, 1) := by decide +kernel
theorem dX3_codeBehind_23 : decode cX3_codeBehind 23 = .ok (.imul, 1) := by decide +kernel
theorem dX3_codeBehind_24 : decode cX3_codeBehind 24 = .ok (.ishl, 1) := by decide +kernel
theorem dX3_codeBehind_25 : decode cX3_codeBehind 25 = .ok (.iload_n 1, 1) := by decide +kernel
theorem dX3_codeBehind_26 : decode cX3_codeBehind 26 = .ok (.aload_n 0, 1) := by decide +kernel
theorem dX3_codeBehind_27 : decode cX3_codeBehind 27 = .ok (.getfield 9, 3) := by decide +kernel
theorem dX3_codeBehind_30 : decode cX3_codeBehind 30 = .ok (.iconst 1, 1) := by decide +kernel
theorem dX3_codeBehind_31 : decode cX3_codeBehind 31 = .ok (.iaload, 1) := by decide +kernel
theorem dX3_codeBehind_32 : decode cX3_codeBehind 32 = .ok (.ishr, 1) := by decide +kernel
theorem dX3_codeBehind_33 : decode cX3_codeBehind 33 = .ok (.iadd, 1) := by decide +kernel
theorem dX3_codeBehind_34 : decode cX3_codeBehind 34 = .ok (.ireturn, 1) := by decide +kernel
set_option maxRecDepth 20000 in
theorem gw_wsX3_gather : wsX3_gather.all goodWord = true := by decide +kernel
set_option maxRecDepth 20000 in
theorem ggX3_weigh_X3_gather : GoodIn wsX3_weigh wsX3_gather := goodIn_sub (List.forall_mem_cons.mpr ⟨(List.mem_cons_of_mem _ (List.mem_append_left _ (List.mem_append_left _ (List.mem_of_getElem? (i := 4) rfl)))), List.forall_mem_append.mpr ⟨List.forall_mem_cons.mpr ⟨(List.mem_cons_of_mem _ (List.mem_append_left _ (List.mem_append_left _ (List.mem_of_getElem? (i := 5) rfl)))), List.forall_mem_cons.mpr ⟨(List.mem_cons_of_mem _ (List.mem_append_left _ (List.mem_append_left _ (List.mem_of_getElem? (i := 6) rfl)))), List.forall_mem_cons.mpr ⟨(List.mem_cons_of_mem _ (List.mem_append_left _ (List.mem_append_left _ (List.mem_of_getElem? (i := 7) rfl)))), List.forall_mem_cons.mpr ⟨(List.mem_cons_of_mem _ (List.mem_append_left _ (List.mem_append_left _ (List.mem_of_getElem? (i := 8) rfl)))), List.forall_mem_cons.mpr ⟨(List.mem_cons_of_mem _ (List.mem_append_left _ (List.mem_append_left _ (List.mem_of_getElem? (i := 9) rfl)))), List.forall_mem_cons.mpr ⟨(List.mem_cons_of_mem _ (List.mem_append_left _ (List.mem_append_left _ (List.mem_of_getElem? (i := 10) rfl)))), List.forall_mem_cons.mpr ⟨(List.mem_cons_of_mem _ (List.mem_append_left _ (List.mem_append_left _ (List.mem_of_getElem? (i := 3) rfl)))), List.forall_mem_cons.mpr ⟨(List.mem_cons_of_mem _ (List.mem_append_left _ (List.mem_append_left _ (List.mem_of_getElem? (i := 11) rfl)))), fun _ h => absurd h List.not_mem_nil⟩⟩⟩⟩⟩⟩⟩⟩, fun _ h => (List.mem_cons_of_mem _ (List.mem_append_right _ h))⟩⟩) gw_wsX3_gather
set_option maxRecDepth 20000 in
theorem gX3_weigh_X3_gather : GoodIn wsX3_weigh (wsV RX3 57 RX3 yX3_gather wsX3_gather) := goodIn_app (goodIn_of _ (by decide +kernel)) ggX3_weigh_X3_gather
set_option maxRecDepth 20000 in
theorem gw_wsX3_weighGathered : wsX3_weighGathered.all goodWord = true := by decide +kernel
set_option maxRecDepth 20000 in
theorem ggX3_weigh_X3_weighGathered : GoodIn wsX3_weigh wsX3_weighGathered := goodIn_sub (List.forall_mem_cons.mpr ⟨(List.mem_cons_of_mem _ (List.mem_append_left _ (List.mem_append_left _ (List.mem_of_getElem? (i := 15) rfl)))), List.forall_mem_append.mpr ⟨List.forall_mem_append.mpr ⟨List.forall_mem_cons.mpr ⟨(List.mem_cons_of_mem _ (List.mem_append_left _ (List.mem_append_left _ (List.mem_of_getElem? (i := 7) rfl)))), List.forall_mem_cons.mpr ⟨(List.mem_cons_of_mem _ (List.mem_append_left _ (List.mem_append_left _ (List.mem_of_getElem? (i := 5) rfl)))), List.forall_mem_cons.mpr ⟨(List.mem_cons_of_mem _ (List.mem_append_left _ (List.mem_append_left _ (List.mem_of_getElem? (i := 16) rfl)))), List.forall_mem_cons.mpr ⟨(List.mem_cons_of_mem _ (List.mem_append_left _ (List.mem_append_left _ (List.mem_of_getElem? (i := 6) rfl)))), List.forall_mem_cons.mpr ⟨(List.mem_cons_of_mem _ (List.mem_append_left _ (List.mem_append_left _ (List.mem_of_getElem? (i := 17) rfl)))), List.forall_mem_cons.mpr ⟨(List.mem_cons_of_mem _ (List.mem_append_left _ (List.mem_append_left _ (List.mem_of_getElem? (i := 18) rfl)))), List.forall_mem_cons.mpr ⟨(List.mem_cons_of_mem _ (List.mem_append_left _ (List.mem_append_left _ (List.mem_of_getElem? (i := 19) rfl)))), List.forall_mem_cons.mpr ⟨(List.mem_cons_of_mem _ (List.mem_append_left _ (List.mem_append_left _ (List.mem_of_getElem? (i := 20) rfl)))), List.forall_mem_cons.mpr ⟨(List.mem_cons_of_mem _ (List.mem_append_left _ (List.mem_append_left _ (List.mem_of_getElem? (i := 9) rfl)))), List.forall_mem_cons.mpr ⟨(List.mem_cons_of_mem _ (List.mem_append_left _ (List.mem_append_left _ (List.mem_of_getElem? (i := 10) rfl)))), List.forall_mem_cons.mpr ⟨(List.mem_cons_of_mem _ (List.mem_append_left _ (List.mem_append_left _ (List.mem_of_getElem? (i := 3) rfl)))), List.forall_mem_cons.mpr ⟨(List.mem_cons_of_mem _ (List.mem_append_left _ (List.mem_append_left _ (List.mem_of_getElem? (i := 11) rfl)))), List.forall_mem_cons.mpr ⟨(List.mem_cons_of_mem _ (List.mem_append_left _ (List.mem_append_left _ (List.mem_of_getElem? (i := 21) rfl)))), List.forall_mem_cons.mpr ⟨(List.mem_cons_of_mem _ (List.mem_append_left _ (List.mem_append_left _ (List.mem_of_getElem? (i := 22) rfl)))), List.forall_mem_cons.mpr ⟨(List.mem_cons_of_mem _ (List.mem_append_left _ (List.mem_append_left _ (List.mem_of_getElem? (i := 23) rfl)))), List.forall_mem_cons.mpr ⟨(List.mem_cons_of_mem _ (List.mem_append_left _ (List.mem_append_right _ (List.mem_of_getElem? (i := 0) rfl)))), List.forall_mem_cons.mpr ⟨(List.mem_cons_of_mem _ (List.mem_append_left _ (List.mem_append_right _ (List.mem_of_getElem? (i := 1) rfl)))), List.forall_mem_cons.mpr ⟨(List.mem_cons_of_mem _ (List.mem_append_left _ (List.mem_append_right _ (List.mem_of_getElem? (i := 2) rfl)))), List.forall_mem_cons.mpr ⟨(List.mem_cons_of_mem _ (List.mem_append_left _ (List.mem_append_right _ (List.mem_of_getElem? (i := 3) rfl)))), List.forall_mem_cons.mpr ⟨(List.mem_cons_of_mem _ (List.mem_append_left _ (List.mem_append_right _ (List.mem_of_getElem? (i := 4) rfl)))), List.forall_mem_cons.mpr ⟨(List.mem_cons_of_mem _ (List.mem_append_left _ (List.mem_append_right _ (List.mem_of_getElem? (i := 5) rfl)))), List.forall_mem_cons.mpr ⟨(List.mem_cons_of_mem _ (List.mem_append_left _ (List.mem_append_right _ (List.mem_of_getElem? (i := 6) rfl)))), List.forall_mem_cons.mpr ⟨(List.mem_cons_of_mem _ (List.mem_append_left _ (List.mem_append_right _ (List.mem_of_getElem? (i := 7) rfl)))), List.forall_mem_cons.mpr ⟨(List.mem_cons_of_mem _ (List.mem_append_left _ (List.mem_append_right _ (List.mem_of_getElem? (i := 8) rfl)))), fun _ h => absurd h List.not_mem_nil⟩⟩⟩⟩⟩⟩⟩⟩⟩⟩⟩⟩⟩⟩⟩⟩⟩⟩⟩⟩⟩⟩⟩⟩, List.forall_mem_cons.mpr ⟨(List.mem_cons_of_mem _ (List.mem_append_left _ (List.mem_append_right _ (List.mem_of_getElem? (i := 9) rfl)))), List.forall_mem_cons.mpr ⟨(List.mem_cons_of_mem _ (List.mem_append_left _ (List.mem_append_right _ (List.mem_of_getElem? (i := 10) rfl)))), List.forall_mem_cons.mpr ⟨(List.mem_cons_of_mem _ (List.mem_append_left _ (List.mem_append_right _ (List.mem_of_getElem? (i := 11) rfl)))), List.forall_mem_cons.mpr ⟨(List.mem_cons_of_mem _ (List.mem_append_left _ (List.mem_append_right _ (List.mem_of_getElem? (i := 12) rfl)))), List.forall_mem_cons.mpr ⟨(List.mem_cons_of_mem _ (List.mem_append_left _ (List.mem_append_left _ (List.mem_of_getElem? (i := 8) rfl)))), fun _ h => absurd h List.not_mem_nil⟩⟩⟩⟩⟩⟩, fun _ h => (List.mem_cons_of_mem _ (List.mem_append_right _ h))⟩⟩) gw_wsX3_weighGathered
set_option maxRecDepth 20000 in
theorem gX3_weigh_X3_weighGathered : GoodIn wsX3_weigh (wsV RX3 60 RX3 yX3_weighGathered wsX3_weighGathered) := goodIn_app (goodIn_of _ (by decide +kernel)) ggX3_weigh_X3_weighGathered
theorem dX3_weigh_0 : decode cX3_weigh 0 = .ok (.aload_n 0, 1) := by decide +kernel
theorem dX3_weigh_1 : decode cX3_weigh 1 = .ok (.invokevirtual 57, 3) := by decide +kernel
theorem dX3_weigh_4 : decode cX3_weigh 4 = .ok (.aload_n 0, 1) := by decide +kernel
theorem dX3_weigh_5 : decode cX3_weigh 5 = .ok (.iload_n 1, 1) := by decide +kernel
theorem dX3_weigh_6 : decode cX3_weigh 6 = .ok (.invokevirtual 60, 3) := by decide +kernel
theorem dX3_weigh_9 : decode cX3_weigh 9 = .ok (.return_, 1) := by decide +kernel
set_option maxRecDepth 20000 in
theorem gw_wsX3_toWhole : wsX3_toWhole.all goodWord = true := by decide +kernel
set_option maxRecDepth 20000 in
theorem ggX3_gather_X3_toWhole : GoodIn wsX3_gather wsX3_toWhole := goodIn_sub (List.forall_mem_cons.mpr ⟨(List.mem_cons_of_mem _ (List.mem_append_left _ (List.mem_of_getElem? (i := 7) rfl))), fun _ h => absurd h List.not_mem_nil⟩) gw_wsX3_toWhole
set_option maxRecDepth 20000 in
theorem gX3_gather_X3_toWhole : GoodIn wsX3_gather (va_wsS RX3 64 yX3_toWhole wsX3_toWhole) := goodIn_app (goodIn_of _ (by decide +kernel)) ggX3_gather_X3_toWhole
theorem dX3_gather_0 : decode cX3_gather 0 = .ok (.aload_n 0, 1) := by decide +kernel
theorem dX3_gather_1 : decode cX3_gather 1 = .ok (.iconst 0, 1) := by decide +kernel
theorem dX3_gather_2 : decode cX3_gather 2 = .ok (.putfield 35, 3) := by decide +kernel
theorem dX3_gather_5 : decode cX3_gather 5 = .ok (.aload_n 0, 1) := by decide +kernel
theorem dX3_gather_6 : decode cX3_gather 6 = .ok (.iconst 0, 1) := by decide +kernel
theorem dX3_gather_7 : decode cX3_gather 7 = .ok (.putfield 38, 3) := by decide +kernel
theorem dX3_gather_10 : decode cX3_gather 10 = .ok (.iconst 0, 1) := by decide +kernel
theorem dX3_gather_11 : decode cX3_gather 11 = .ok (.istore_n 1, 1) := by decide +kernel
theorem dX3_gather_12 : decode cX3_gather 12 = .ok (.iload_n 1, 1) := by decide +kernel
theorem dX3_gather_13 : decode cX3_gather 13 = .ok (.aload_n 0, 1) := by decide +kernel
theorem dX3_gather_14 : decode cX3_gather 14 = .ok (.getfield 9, 3) := by decide +kernel
theorem dX3_gather_17 : decode cX3_gather 17 = .ok (.iconst 0, 1) := by decide +kernel
theorem dX3_gather_18 : decode cX3_gather 18 = .ok (.iaload, 1) := by decide +kernel
theorem dX3_gather_19 : decode cX3_gather 19 = .ok (.if_icmp .ge 78, 3) := by decide +kernel
theorem dX3_gather_22 : decode cX3_gather 22 = .ok (.iload_n 1, 1) := by decide +kernel
theorem dX3_gather_23 : decode cX3_gather 23 = .ok (.iconst 3, 1) := by decide +kernel
theorem dX3_gather_24 : decode cX3_gather 24 = .ok (.if_icmp .ge 73, 3) := by decide +kernel
theorem dX3_gather_27 : decode cX3_gather 27 = .ok (.aload_n 0, 1) := by decide +kernel
theorem dX3_gather_28 : decode cX3_gather 28 = .ok (.getfield 9, 3) := by decide +kernel
theorem dX3_gather_31 : decode cX3_gather 31 = .ok (.iconst 2, 1) := by decide +kernel
theorem dX3_gather_32 : decode cX3_gather 32 = .ok (.iload_n 1, 1) := by decide +kernel
theorem dX3_gather_33 : decode cX3_gather 33 = .ok (.iadd, 1) := by decide +kernel
theorem dX3_gather_34 : decode cX3_gather 34 = .ok (.iaload, 1) := by decide +kernel
theorem dX3_gather_35 : decode cX3_gather 35 = .ok (.aload_n 0, 1) := by decide +kernel
theorem dX3_gather_36 : decode cX3_gather 36 = .ok (.getfield 15, 3) := by decide +kernel
theorem dX3_gather_39 : decode cX3_gather 39 = .ok (.iload_n 1, 1) := by decide +kernel
theorem dX3_gather_40 : decode cX3_gather 40 = .ok (.iaload, 1) := by decide +kernel
theorem dX3_gather_41 : decode cX3_gather 41 = .ok (.imul, 1) := by decide +kernel
theorem dX3_gather_42 : decode cX3_gather 42 = .ok (.istore_n 2, 1) := by decide +kernel
theorem dX3_gather_43 : decode cX3_gather 43 = .ok (.aload_n 0, 1) := by decide +kernel
theorem dX3_gather_44 : decode cX3_gather 44 = .ok (.dup, 1) := by decide +kernel
theorem dX3_gather_45 : decode cX3_gather 45 = .ok (.getfield 35, 3) := by decide +kernel
theorem dX3_gather_48 : decode cX3_gather 48 = .ok (.iload_n 2, 1) := by decide +kernel
theorem dX3_gather_49 : decode cX3_gather 49 = .ok (.iadd, 1) := by decide +kernel
theorem dX3_gather_50 : decode cX3_gather 50 = .ok (.putfield 35, 3) := by decide +kernel
theorem dX3_gather_53 : decode cX3_gather 53 = .ok (.aload_n 0, 1) := by decide +kernel
theorem dX3_gather_54 : decode cX3_gather 54 = .ok (.getfield 9, 3) := by decide +kernel
theorem dX3_gather_57 : decode cX3_gather 57 = .ok (.bipush 9, 2) := by decide +kernel
theorem dX3_gather_59 : decode cX3_gather 59 = .ok (.iaload, 1) := by decide +kernel
theorem dX3_gather_60 : decode cX3_gather 60 = .ok (.iconst 1, 1) := by decide +kernel
theorem dX3_gather_61 : decode cX3_gather 61 = .ok (.if_icmp .ne 30, 3) := by decide +kernel
theorem dX3_gather_64 : decode cX3_gather 64 = .ok (.aload_n 0, 1) := by decide +kernel
theorem dX3_gather_65 : decode cX3_gather 65 = .ok (.dup, 1) := by decide +kernel
theorem dX3_gather_66 : decode cX3_gather 66 = .ok (.getfield 38, 3) := by decide +kernel
theorem dX3_gather_69 : decode cX3_gather 69 = .ok (.aload_n 0, 1) := by decide +kernel
theorem dX3_gather_70 : decode cX3_gather 70 = .ok (.getfield 9, 3) := by decide +kernel
theorem dX3_gather_73 : decode cX3_gather 73 = .ok (.bipush 7, 2) := by decide +kernel
theorem dX3_gather_75 : decode cX3_gather 75 = .ok (.iaload, 1) := by decide +kernel
theorem dX3_gather_76 : decode cX3_gather 76 = .ok (.aload_n 0, 1) := by decide +kernel
theorem dX3_gather_77 : decode cX3_gather 77 = .ok (.getfield 9, 3) := by decide +kernel
theorem dX3_gather_80 : decode cX3_gather 80 = .ok (.bipush 6, 2) := by decide +kernel
theorem dX3_gather_82 : decode cX3_gather 82 = .ok (.iaload, 1) := by decide +kernel
theorem dX3_gather_83 : decode cX3_gather 83 = .ok (.iload_n 2, 1) := by decide +kernel
theorem dX3_gather_84 : decode cX3_gather 84 = .ok (.invokestatic 64, 3) := by decide +kernel
theorem dX3_gather_87 : decode cX3_gather 87 = .ok (.iadd, 1) := by decide +kernel
theorem dX3_gather_88 : decode cX3_gather 88 = .ok (.putfield 38, 3) := by decide +kernel
theorem dX3_gather_91 : decode cX3_gather 91 = .ok (.iinc 1 1, 3) := by decide +kernel
theorem dX3_gather_94 : decode cX3_gather 94 = .ok (.goto (-82), 3) := by decide +kernel
theorem dX3_gather_97 : decode cX3_gather 97 = .ok (.return_, 1) := by decide +kernel
set_option maxRecDepth 20000 in
theorem ggX3_weighGathered_X3_toWhole : GoodIn wsX3_weighGathered wsX3_toWhole := goodIn_sub (List.forall_mem_cons.mpr ⟨(List.mem_cons_of_mem _ (List.mem_append_left _ (List.mem_append_left _ (List.mem_of_getElem? (i := 11) rfl)))), fun _ h => absurd h List.not_mem_nil⟩) gw_wsX3_toWhole
set_option maxRecDepth 20000 in
theorem gX3_weighGathered_X3_toWhole : GoodIn wsX3_weighGathered (va_wsS RX3 64 yX3_toWhole wsX3_toWhole) := goodIn_app (goodIn_of _ (by decide +kernel)) ggX3_weighGathered_X3_toWhole
set_option maxRecDepth 20000 in
theorem gw_wsX3_unit : wsX3_unit.all goodWord = true := by decide +kernel
set_option maxRecDepth 20000 in
theorem ggX3_weighGathered_X3_unit : GoodIn wsX3_weighGathered wsX3_unit := goodIn_sub (List.forall_mem_cons.mpr ⟨(List.mem_cons_of_mem _ (List.mem_append_left _ (List.mem_append_left _ (List.mem_of_getElem? (i := 15) rfl)))), List.forall_mem_append.mpr ⟨List.forall_mem_cons.mpr ⟨(List.mem_cons_of_mem _ (List.mem_append_left _ (List.mem_append_left _ (List.mem_of_getElem? (i := 0) rfl)))), fun _ h => absurd h List.not_mem_nil⟩, fun _ h => (List.mem_cons_of_mem _ (List.mem_append_right _ h))⟩⟩) gw_wsX3_unit
set_option maxRecDepth 20000 in
theorem gX3_weighGathered_X3_unit : GoodIn wsX3_weighGathered (wsV RX3 68 RX3 yX3_unit wsX3_unit) := goodIn_app (goodIn_of _ (by decide +kernel)) ggX3_weighGathered_X3_unit
set_option maxRecDepth 20000 in
theorem gw_wsX3_holds : wsX3_holds.all goodWord = true := by decide +kernel
set_option maxRecDepth 20000 in
theorem ggX3_weighGathered_X3_holds : GoodIn wsX3_weighGathered wsX3_holds := goodIn_sub (List.forall_mem_cons.mpr ⟨(List.mem_cons_of_mem _ (List.mem_append_left _ (List.mem_append_left _ (List.mem_of_getElem? (i := 19) rfl)))), List.forall_mem_append.mpr ⟨List.forall_mem_cons.mpr ⟨(List.mem_cons_of_mem _ (List.mem_append_left _ (List.mem_append_left _ (List.mem_of_getElem? (i := 20) rfl)))), List.forall_mem_cons.mpr ⟨(List.mem_cons_of_mem _ (List.mem_append_left _ (List.mem_append_left _ (List.mem_of_getElem? (i := 21) rfl)))), List.forall_mem_cons.mpr ⟨(List.mem_cons_of_mem _ (List.mem_append_left _ (List.mem_append_left _ (List.mem_of_getElem? (i := 22) rfl)))), List.forall_mem_cons.mpr ⟨(List.mem_cons_of_mem _ (List.mem_append_left _ (List.mem_append_left _ (List.mem_of_getElem? (i := 10) rfl)))), List.forall_mem_cons.mpr ⟨(List.mem_cons_of_mem _ (List.mem_append_left _ (List.mem_append_left _ (List.mem_of_getElem? (i := 23) rfl)))), List.forall_mem_cons.mpr ⟨(List.mem_cons_of_mem _ (List.mem_append_left _ (List.mem_append_left _ (List.mem_of_getElem? (i := 0) rfl)))), fun _ h => absurd h List.not_mem_nil⟩⟩⟩⟩⟩⟩, fun _ h => (List.mem_cons_of_mem _ (List.mem_append_right _ h))⟩⟩) gw_wsX3_holds
set_option maxRecDepth 20000 in
theorem gX3_weighGathered_X3_holds : GoodIn wsX3_weighGathered (wsV RX3 71 RX3 yX3_holds wsX3_holds) := goodIn_app (goodIn_of _ (by decide +kernel)) ggX3_weighGathered_X3_holds
set_option maxRecDepth 20000 in
theorem gw_wsX3_toWord : wsX3_toWord.all goodWord = true := by decide +kernel
set_option maxRecDepth 20000 in
theorem ggX3_weighGathered_X3_toWord : GoodIn wsX3_weighGathered wsX3_toWord := goodIn_sub (List.forall_mem_cons.mpr ⟨(List.mem_cons_of_mem _ (List.mem_append_left _ (List.mem_append_right _ (List.mem_of_getElem? (i := 3) rfl)))), List.forall_mem_append.mpr ⟨List.forall_mem_cons.mpr ⟨(List.mem_cons_of_mem _ (List.mem_append_left _ (List.mem_append_right _ (List.mem_of_getElem? (i := 4) rfl)))), List.forall_mem_cons.mpr ⟨(List.mem_cons_of_mem _ (List.mem_append_left _ (List.mem_append_left _ (List.mem_of_getElem? (i := 20) rfl)))), List.forall_mem_cons.mpr ⟨(List.mem_cons_of_mem _ (List.mem_append_left _ (List.mem_append_left _ (List.mem_of_getElem? (i := 21) rfl)))), List.forall_mem_cons.mpr ⟨(List.mem_cons_of_mem _ (List.mem_append_left _ (List.mem_append_left _ (List.mem_of_getElem? (i := 22) rfl)))), List.forall_mem_cons.mpr ⟨(List.mem_cons_of_mem _ (List.mem_append_left _ (List.mem_append_left _ (List.mem_of_getElem? (i := 10) rfl)))), List.forall_mem_cons.mpr ⟨(List.mem_cons_of_mem _ (List.mem_append_left _ (List.mem_append_left _ (List.mem_of_getElem? (i := 23) rfl)))), List.forall_mem_cons.mpr ⟨(List.mem_cons_of_mem _ (List.mem_append_left _ (List.mem_append_left _ (List.mem_of_getElem? (i := 0) rfl)))), fun _ h => absurd h List.not_mem_nil⟩⟩⟩⟩⟩⟩⟩, fun _ h => (List.mem_cons_of_mem _ (List.mem_append_right _ h))⟩⟩) gw_wsX3_toWord
set_option maxRecDepth 20000 in
theorem gX3_weighGathered_X3_toWord : GoodIn wsX3_weighGathered (wsV RX3 75 RX3 yX3_toWord wsX3_toWord) := goodIn_app (goodIn_of _ (by decide +kernel)) ggX3_weighGathered_X3_toWord
theorem dX3_weighGathered_0 : decode cX3_weighGathered 0 = .ok (.aload_n 0, 1) := by decide +kernel
theorem dX3_weighGathered_1 : decode cX3_weighGathered 1 = .ok (.getfield 9, 3) := by decide +kernel
theorem dX3_weighGathered_4 : decode cX3_weighGathered 4 = .ok (.iconst 5, 1) := by decide +kernel
theorem dX3_weighGathered_5 : decode cX3_weighGathered 5 = .ok (.iaload, 1) := by decide +kernel
theorem dX3_weighGathered_6 : decode cX3_weighGathered 6 = .ok (.iload_n 1, 1) := by decide +kernel
theorem dX3_weighGathered_7 : decode cX3_weighGathered 7 = .ok (.imul, 1) := by decide +kernel
theorem dX3_weighGathered_8 : decode cX3_weighGathered 8 = .ok (.istore_n 2, 1) := by decide +kernel
theorem dX3_weighGathered_9 : decode cX3_weighGathered 9 = .ok (.aload_n 0, 1) := by decide +kernel
theorem dX3_weighGathered_10 : decode cX3_weighGathered 10 = .ok (.aload_n 0, 1) := by decide +kernel
theorem dX3_weighGathered_11 : decode cX3_weighGathered 11 = .ok (.getfield 35, 3) := by decide +kernel
theorem dX3_weighGathered_14 : decode cX3_weighGathered 14 = .ok (.iload_n 2, 1) := by decide +kernel
theorem dX3_weighGathered_15 : decode cX3_weighGathered 15 = .ok (.iadd, 1) := by decide +kernel
theorem dX3_weighGathered_16 : decode cX3_weighGathered 16 = .ok (.putfield 18, 3) := by decide +kernel
theorem dX3_weighGathered_19 : decode cX3_weighGathered 19 = .ok (.aload_n 0, 1) := by decide +kernel
theorem dX3_weighGathered_20 : decode cX3_weighGathered 20 = .ok (.getfield 9, 3) := by decide +kernel
theorem dX3_weighGathered_23 : decode cX3_weighGathered 23 = .ok (.bipush 9, 2) := by decide +kernel
theorem dX3_weighGathered_25 : decode cX3_weighGathered 25 = .ok (.iaload, 1) := by decide +kernel
theorem dX3_weighGathered_26 : decode cX3_weighGathered 26 = .ok (.iconst 1, 1) := by decide +kernel
theorem dX3_weighGathered_27 : decode cX3_weighGathered 27 = .ok (.if_icmp .ne 33, 3) := by decide +kernel
theorem dX3_weighGathered_30 : decode cX3_weighGathered 30 = .ok (.aload_n 0, 1) := by decide +kernel
theorem dX3_weighGathered_31 : decode cX3_weighGathered 31 = .ok (.aload_n 0, 1) := by decide +kernel
theorem dX3_weighGathered_32 : decode cX3_weighGathered 32 = .ok (.getfield 38, 3) := by decide +kernel
theorem dX3_weighGathered_35 : decode cX3_weighGathered 35 = .ok (.aload_n 0, 1) := by decide +kernel
theorem dX3_weighGathered_36 : decode cX3_weighGathered 36 = .ok (.getfield 9, 3) := by decide +kernel
theorem dX3_weighGathered_39 : decode cX3_weighGathered 39 = .ok (.bipush 7, 2) := by decide +kernel
theorem dX3_weighGathered_41 : decode cX3_weighGathered 41 = .ok (.iaload, 1) := by decide +kernel
theorem dX3_weighGathered_42 : decode cX3_weighGathered 42 = .ok (.aload_n 0, 1) := by decide +kernel
theorem dX3_weighGathered_43 : decode cX3_weighGathered 43 = .ok (.getfield 9, 3) := by decide +kernel
theorem dX3_weighGathered_46 : decode cX3_weighGathered 46 = .ok (.bipush 6, 2) := by decide +kernel
theorem dX3_weighGathered_48 : decode cX3_weighGathered 48 = .ok (.iaload, 1) := by decide +kernel
theorem dX3_weighGathered_49 : decode cX3_weighGathered 49 = .ok (.iload_n 2, 1) := by decide +kernel
theorem dX3_weighGathered_50 : decode cX3_weighGathered 50 = .ok (.invokestatic 64, 3) := by decide +kernel
theorem dX3_weighGathered_53 : decode cX3_weighGathered 53 = .ok (.iadd, 1) := by decide +kernel
theorem dX3_weighGathered_54 : decode cX3_weighGathered 54 = .ok (.putfield 22, 3) := by decide +kernel
theorem dX3_weighGathered_57 : decode cX3_weighGathered 57 = .ok (.goto 28, 3) := by decide +kernel
theorem dX3_weighGathered_60 : decode cX3_weighGathered 60 = .ok (.aload_n 0, 1) := by decide +kernel
theorem dX3_weighGathered_61 : decode cX3_weighGathered 61 = .ok (.aload_n 0, 1) := by decide +kernel
theorem dX3_weighGathered_62 : decode cX3_weighGathered 62 = .ok (.getfield 9, 3) := by decide +kernel
theorem dX3_weighGathered_65 : decode cX3_weighGathered 65 = .ok (.bipush 7, 2) := by decide +kernel
theorem dX3_weighGathered_67 : decode cX3_weighGathered 67 = .ok (.iaload, 1) := by decide +kernel
theorem dX3_weighGathered_68 : decode cX3_weighGathered 68 = .ok (.aload_n 0, 1) := by decide +kernel
theorem dX3_weighGathered_69 : decode cX3_weighGathered 69 = .ok (.getfield 9, 3) := by decide +kernel
theorem dX3_weighGathered_72 : decode cX3_weighGathered 72 = .ok (.bipush 6, 2) := by decide +kernel
theorem dX3_weighGathered_74 : decode cX3_weighGathered 74 = .ok (.iaload, 1) := by decide +kernel
theorem dX3_weighGathered_75 : decode cX3_weighGathered 75 = .ok (.aload_n 0, 1) := by decide +kernel
theorem dX3_weighGathered_76 : decode cX3_weighGathered 76 = .ok (.getfield 18, 3) := by decide +kernel
theorem dX3_weighGathered_79 : decode cX3_weighGathered 79 = .ok (.invokestatic 64, 3) := by decide +kernel
theorem dX3_weighGathered_82 : decode cX3_weighGathered 82 = .ok (.putfield 22, 3) := by decide +kernel
theorem dX3_weighGathered_85 : decode cX3_weighGathered 85 = .ok (.aload_n 0, 1) := by decide +kernel
theorem dX3_weighGathered_86 : decode cX3_weighGathered 86 = .ok (.aload_n 0, 1) := by decide +kernel
theorem dX3_weighGathered_87 : decode cX3_weighGathered 87 = .ok (.getfield 22, 3) := by decide +kernel
theorem dX3_weighGathered_90 : decode cX3_weighGathered 90 = .ok (.aload_n 0, 1) := by decide +kernel
theorem dX3_weighGathered_91 : decode cX3_weighGathered 91 = .ok (.invokevirtual 68, 3) := by decide +kernel
theorem dX3_weighGathered_94 : decode cX3_weighGathered 94 = .ok (.imul, 1) := by decide +kernel
theorem dX3_weighGathered_95 : decode cX3_weighGathered 95 = .ok (.aload_n 0, 1) := by decide +kernel
theorem dX3_weighGathered_96 : decode cX3_weighGathered 96 = .ok (.getfield 18, 3) := by decide +kernel
theorem dX3_weighGathered_99 : decode cX3_weighGathered 99 = .ok (.isub, 1) := by decide +kernel
theorem dX3_weighGathered_100 : decode cX3_weighGathered 100 = .ok (.putfield 25, 3) := by decide +kernel
theorem dX3_weighGathered_103 : decode cX3_weighGathered 103 = .ok (.aload_n 0, 1) := by decide +kernel
theorem dX3_weighGathered_104 : decode cX3_weighGathered 104 = .ok (.aload_n 0, 1) := by decide +kernel
theorem dX3_weighGathered_105 : decode cX3_weighGathered 105 = .ok (.aload_n 0, 1) := by decide +kernel
theorem dX3_weighGathered_106 : decode cX3_weighGathered 106 = .ok (.getfield 22, 3) := by decide +kernel
theorem dX3_weighGathered_109 : decode cX3_weighGathered 109 = .ok (.invokevirtual 71, 3) := by decide +kernel
theorem dX3_weighGathered_112 : decode cX3_weighGathered 112 = .ok (.ifCond .ne 7, 3) := by decide +kernel
theorem dX3_weighGathered_115 : decode cX3_weighGathered 115 = .ok (.iconst 1, 1) := by decide +kernel
theorem dX3_weighGathered_116 : decode cX3_weighGathered 116 = .ok (.goto 4, 3) := by decide +kernel
theorem dX3_weighGathered_119 : decode cX3_weighGathered 119 = .ok (.iconst 0, 1) := by decide +kernel
theorem dX3_weighGathered_120 : decode cX3_weighGathered 120 = .ok (.putfield 31, 3) := by decide +kernel
theorem dX3_weighGathered_123 : decode cX3_weighGathered 123 = .ok (.aload_n 0, 1) := by decide +kernel
theorem dX3_weighGathered_124 : decode cX3_weighGathered 124 = .ok (.aload_n 0, 1) := by decide +kernel
theorem dX3_weighGathered_125 : decode cX3_weighGathered 125 = .ok (.aload_n 0, 1) := by decide +kernel
theorem dX3_weighGathered_126 : decode cX3_weighGathered 126 = .ok (.getfield 9, 3) := by decide +kernel
theorem dX3_weighGathered_129 : decode cX3_weighGathered 129 = .ok (.bipush 8, 2) := by decide +kernel
theorem dX3_weighGathered_131 : decode cX3_weighGathered 131 = .ok (.iaload, 1) := by decide +kernel
theorem dX3_weighGathered_132 : decode cX3_weighGathered 132 = .ok (.aload_n 0, 1) := by decide +kernel
theorem dX3_weighGathered_133 : decode cX3_weighGathered 133 = .ok (.getfield 22, 3) := by decide +kernel
theorem dX3_weighGathered_136 : decode cX3_weighGathered 136 = .ok (.invokevirtual 75, 3) := by decide +kernel
theorem dX3_weighGathered_139 : decode cX3_weighGathered 139 = .ok (.putfield 28, 3) := by decide +kernel
theorem dX3_weighGathered_142 : decode cX3_weighGathered 142 = .ok (.return_, 1) := by decide +kernel
theorem dX3_push_0 : decode cX3_push 0 = .ok (.aload_n 0, 1) := by decide +kernel
theorem dX3_push_1 : decode cX3_push 1 = .ok (.getfield 9, 3) := by decide +kernel
theorem dX3_push_4 : decode cX3_push 4 = .ok (.iconst 0, 1) := by decide +kernel
theorem dX3_push_5 : decode cX3_push 5 = .ok (.iaload, 1) := by decide +kernel
theorem dX3_push_6 : decode cX3_push 6 = .ok (.iconst 3, 1) := by decide +kernel
theorem dX3_push_7 : decode cX3_push 7 = .ok (.invokestatic 51, 3) := by decide +kernel
theorem dX3_push_10 : decode cX3_push 10 = .ok (.iconst 1, 1) := by decide +kernel
theorem dX3_push_11 : decode cX3_push 11 = .ok (.isub, 1) := by decide +kernel
theorem dX3_push_12 : decode cX3_push 12 = .ok (.istore_n 1, 1) := by decide +kernel
theorem dX3_push_13 : decode cX3_push 13 = .ok (.iload_n 1, 1) := by decide +kernel
theorem dX3_push_14 : decode cX3_push 14 = .ok (.ifCond .le 23, 3) := by decide +kernel
theorem dX3_push_17 : decode cX3_push 17 = .ok (.aload_n 0, 1) := by decide +kernel
theorem dX3_push_18 : decode cX3_push 18 = .ok (.getfield 15, 3) := by decide +kernel
theorem dX3_push_21 : decode cX3_push 21 = .ok (.iload_n 1, 1) := by decide +kernel
theorem dX3_push_22 : decode cX3_push 22 = .ok (.aload_n 0, 1) := by decide +kernel
theorem dX3_push_23 : decode cX3_push 23 = .ok (.getfield 15, 3) := by decide +kernel
theorem dX3_push_26 : decode cX3_push 26 = .ok (.iload_n 1, 1) := by decide +kernel
theorem dX3_push_27 : decode cX3_push 27 = .ok (.iconst 1, 1) := by decide +kernel
theorem dX3_push_28 : decode cX3_push 28 = .ok (.isub, 1) := by decide +kernel
theorem dX3_push_29 : decode cX3_push 29 = .ok (.iaload, 1) := by decide +kernel
theorem dX3_push_30 : decode cX3_push 30 = .ok (.iastore, 1) := by decide +kernel
theorem dX3_push_31 : decode cX3_push 31 = .ok (.iinc 1 (-1), 3) := by decide +kernel
theorem dX3_push_34 : decode cX3_push 34 = .ok (.goto (-21), 3) := by decide +kernel
theorem dX3_push_37 : decode cX3_push 37 = .ok (.aload_n 0, 1) := by decide +kernel
theorem dX3_push_38 : decode cX3_push 38 = .ok (.getfield 15, 3) := by decide +kernel
theorem dX3_push_41 : decode cX3_push 41 = .ok (.iconst 0, 1) := by decide +kernel
theorem dX3_push_42 : decode cX3_push 42 = .ok (.aload_n 0, 1) := by decide +kernel
theorem dX3_push_43 : decode cX3_push 43 = .ok (.getfield 28, 3) := by decide +kernel
theorem dX3_push_46 : decode cX3_push 46 = .ok (.iastore, 1) := by decide +kernel
theorem dX3_push_47 : decode cX3_push 47 = .ok (.return_, 1) := by decide +kernel
theorem dX3_toWhole_0 : decode cX3_toWhole 0 = .ok (.iload_n 2, 1) := by decide +kernel
theorem dX3_toWhole_1 : decode cX3_toWhole 1 = .ok (.iload_n 1, 1) := by decide +kernel
theorem dX3_toWhole_2 : decode cX3_toWhole 2 = .ok (.ishr, 1) := by decide +kernel
theorem dX3_toWhole_3 : decode cX3_toWhole 3 = .ok (.istore_n 3, 1) := by decide +kernel
theorem dX3_toWhole_4 : decode cX3_toWhole 4 = .ok (.iload_n 2, 1) := by decide +kernel
theorem dX3_toWhole_5 : decode cX3_toWhole 5 = .ok (.iload_n 3, 1) := by decide +kernel
theorem dX3_toWhole_6 : decode cX3_toWhole 6 = .ok (.iload_n 1, 1) := by decide +kernel
theorem dX3_toWhole_7 : decode cX3_toWhole 7 = .ok (.ishl, 1) := by decide +kernel
theorem dX3_toWhole_8 : decode cX3_toWhole 8 = .ok (.isub, 1) := by decide +kernel
theorem dX3_toWhole_9 : decode cX3_toWhole 9 = .ok (.istore 4, 2) := by decide +kernel
theorem dX3_toWhole_11 : decode cX3_toWhole 11 = .ok (.iload 4, 2) := by decide +kernel
theorem dX3_toWhole_13 : decode cX3_toWhole 13 = .ok (.ifCond .ne 5, 3) := by decide +kernel
theorem dX3_toWhole_16 : decode cX3_toWhole 16 = .ok (.iload_n 3, 1) := by decide +kernel
theorem dX3_toWhole_17 : decode cX3_toWhole 17 = .ok (.ireturn, 1) := by decide +kernel
theorem dX3_toWhole_18 : decode cX3_toWhole 18 = .ok (.iconst 2, 1) := by decide +kernel
theorem dX3_toWhole_19 : decode cX3_toWhole 19 = .ok (.iload 4, 2) := by decide +kernel
theorem dX3_toWhole_21 : decode cX3_toWhole 21 = .ok (.imul, 1) := by decide +kernel
theorem dX3_toWhole_22 : decode cX3_toWhole 22 = .ok (.iconst 1, 1) := by decide +kernel
theorem dX3_toWhole_23 : decode cX3_toWhole 23 = .ok (.iload_n 1, 1) := by decide +kernel
theorem dX3_toWhole_24 : decode cX3_toWhole 24 = .ok (.ishl, 1) := by decide +kernel
theorem dX3_toWhole_25 : decode cX3_toWhole 25 = .ok (.isub, 1) := by decide +kernel
theorem dX3_toWhole_26 : decode cX3_toWhole 26 = .ok (.istore 5, 2) := by decide +kernel
theorem dX3_toWhole_28 : decode cX3_toWhole 28 = .ok (.iload_n 0, 1) := by decide +kernel
theorem dX3_toWhole_29 : decode cX3_toWhole 29 = .ok (.tableswitch 94 1 4 #[31, 43, 56, 82], 31) := by decide +kernel
theorem dX3_toWhole_60 : decode cX3_toWhole 60 = .ok (.iload_n 2, 1) := by decide +kernel
theorem dX3_toWhole_61 : decode cX3_toWhole 61 = .ok (.ifCond .ge 9, 3) := by decide +kernel
theorem dX3_toWhole_64 : decode cX3_toWhole 64 = .ok (.iload_n 3, 1) := by decide +kernel
theorem dX3_toWhole_65 : decode cX3_toWhole 65 = .ok (.iconst 1, 1) := by decide +kernel
theorem dX3_toWhole_66 : decode cX3_toWhole 66 = .ok (.iadd, 1) := by decide +kernel
theorem dX3_toWhole_67 : decode cX3_toWhole 67 = .ok (.goto 4, 3) := by decide +kernel
theorem dX3_toWhole_70 : decode cX3_toWhole 70 = .ok (.iload_n 3, 1) := by decide +kernel
theorem dX3_toWhole_71 : decode cX3_toWhole 71 = .ok (.ireturn, 1) := by decide +kernel
theorem dX3_toWhole_72 : decode cX3_toWhole 72 = .ok (.iload 5, 2) := by decide +kernel
theorem dX3_toWhole_74 : decode cX3_toWhole 74 = .ok (.ifCond .lt 9, 3) := by decide +kernel
theorem dX3_toWhole_77 : decode cX3_toWhole 77 = .ok (.iload_n 3, 1) := by decide +kernel
theorem dX3_toWhole_78 : decode cX3_toWhole 78 = .ok (.iconst 1, 1) := by decide +kernel
theorem dX3_toWhole_79 : decode cX3_toWhole 79 = .ok (.iadd, 1) := by decide +kernel
theorem dX3_toWhole_80 : decode cX3_toWhole 80 = .ok (.goto 4, 3) := by decide +kernel
theorem dX3_toWhole_83 : decode cX3_toWhole 83 = .ok (.iload_n 3, 1) := by decide +kernel
theorem dX3_toWhole_84 : decode cX3_toWhole 84 = .ok (.ireturn, 1) := by decide +kernel
theorem dX3_toWhole_85 : decode cX3_toWhole 85 = .ok (.iload 5, 2) := by decide +kernel
theorem dX3_toWhole_87 : decode cX3_toWhole 87 = .ok (.ifCond .ne 11, 3) := by decide +kernel
theorem dX3_toWhole_90 : decode cX3_toWhole 90 = .ok (.iload_n 3, 1) := by decide +kernel
theorem dX3_toWhole_91 : decode cX3_toWhole 91 = .ok (.iload_n 3, 1) := by decide +kernel
theorem dX3_toWhole_92 : decode cX3_toWhole 92 = .ok (.iconst 1, 1) := by decide +kernel
theorem dX3_toWhole_93 : decode cX3_toWhole 93 = .ok (.iand, 1) := by decide +kernel
theorem dX3_toWhole_94 : decode cX3_toWhole 94 = .ok (.iadd, 1) := by decide +kernel
theorem dX3_toWhole_95 : decode cX3_toWhole 95 = .ok (.goto 15, 3) := by decide +kernel
theorem dX3_toWhole_98 : decode cX3_toWhole 98 = .ok (.iload 5, 2) := by decide +kernel
theorem dX3_toWhole_100 : decode cX3_toWhole 100 = .ok (.ifCond .le 9, 3) := by decide +kernel
theorem dX3_toWhole_103 : decode cX3_toWhole 103 = .ok (.iload_n 3, 1) := by decide +kernel
theorem dX3_toWhole_104 : decode cX3_toWhole 104 = .ok (.iconst 1, 1) := by decide +kernel
theorem dX3_toWhole_105 : decode cX3_toWhole 105 = .ok (.iadd, 1) := by decide +kernel
theorem dX3_toWhole_106 : decode cX3_toWhole 106 = .ok (.goto 4, 3) := by decide +kernel
theorem dX3_toWhole_109 : decode cX3_toWhole 109 = .ok (.iload_n 3, 1) := by decide +kernel
theorem dX3_toWhole_110 : decode cX3_toWhole 110 = .ok (.ireturn, 1) := by decide +kernel
theorem dX3_toWhole_111 : decode cX3_toWhole 111 = .ok (.iload_n 2, 1) := by decide +kernel
theorem dX3_toWhole_112 : decode cX3_toWhole 112 = .ok (.ifCond .ge 7, 3) := by decide +kernel
theorem dX3_toWhole_115 : decode cX3_toWhole 115 = .ok (.iload_n 3, 1) := by decide +kernel
theorem dX3_toWhole_116 : decode cX3_toWhole 116 = .ok (.goto 6, 3) := by decide +kernel
theorem dX3_toWhole_119 : decode cX3_toWhole 119 = .ok (.iload_n 3, 1) := by decide +kernel
theorem dX3_toWhole_120 : decode cX3_toWhole 120 = .ok (.iconst 1, 1) := by decide +kernel
theorem dX3_toWhole_121 : decode cX3_toWhole 121 = .ok (.iadd, 1) := by decide +kernel
theorem dX3_toWhole_122 : decode cX3_toWhole 122 = .ok (.ireturn, 1) := by decide +kernel
theorem dX3_toWhole_123 : decode cX3_toWhole 123 = .ok (.iload_n 3, 1) := by decide +kernel
theorem dX3_toWhole_124 : decode cX3_toWhole 124 = .ok (.ireturn, 1) := by decide +kernel
set_option maxRecDepth 20000 in
theorem ggX3_toWord_X3_half : GoodIn wsX3_toWord wsX3_half := goodIn_sub (List.forall_mem_cons.mpr ⟨(List.mem_cons_of_mem _ (List.mem_append_left _ (List.mem_of_getElem? (i := 5) rfl))), List.forall_mem_append.mpr ⟨List.forall_mem_cons.mpr ⟨(List.mem_cons_of_mem _ (List.mem_append_left _ (List.mem_of_getElem? (i := 6) rfl))), fun _ h => absurd h List.not_mem_nil⟩, fun _ h => (List.mem_cons_of_mem _ (List.mem_append_right _ h))⟩⟩) gw_wsX3_half
set_option maxRecDepth 20000 in
theorem gX3_toWord_X3_half : GoodIn wsX3_toWord (wsV RX3 41 RX3 yX3_half wsX3_half) := goodIn_app (goodIn_of _ (by decide +kernel)) ggX3_toWord_X3_half
theorem dX3_toWord_0 : decode cX3_toWord 0 = .ok (.aload_n 0, 1) := by decide +kernel
theorem dX3_toWord_1 : decode cX3_toWord 1 = .ok (.invokevirtual 41, 3) := by decide +kernel
theorem dX3_toWord_4 : decode cX3_toWord 4 = .ok (.istore_n 3, 1) := by decide +kernel
theorem dX3_toWord_5 : decode cX3_toWord 5 = .ok (.iload_n 2, 1) := by decide +kernel
theorem dX3_toWord_6 : decode cX3_toWord 6 = .ok (.iload_n 3, 1) := by decide +kernel
theorem dX3_toWord_7 : decode cX3_toWord 7 = .ok (.ineg, 1) := by decide +kernel
theorem dX3_toWord_8 : decode cX3_toWord 8 = .ok (.if_icmp .lt 10, 3) := by decide +kernel
theorem dX3_toWord_11 : decode cX3_toWord 11 = .ok (.iload_n 2, 1) := by decide +kernel
theorem dX3_toWord_12 : decode cX3_toWord 12 = .ok (.iload_n 3, 1) := by decide +kernel
theorem dX3_toWord_13 : decode cX3_toWord 13 = .ok (.if_icmp .ge 5, 3) := by decide +kernel
theorem dX3_toWord_16 : decode cX3_toWord 16 = .ok (.iload_n 2, 1) := by decide +kernel
theorem dX3_toWord_17 : decode cX3_toWord 17 = .ok (.ireturn, 1) := by decide +kernel
theorem dX3_toWord_18 : decode cX3_toWord 18 = .ok (.iload_n 1, 1) := by decide +kernel
theorem dX3_toWord_19 : decode cX3_toWord 19 = .ok (.tableswitch 55 1 4 #[29, 42, 44, 51], 29) := by decide +kernel
theorem dX3_toWord_48 : decode cX3_toWord 48 = .ok (.iload_n 2, 1) := by decide +kernel
theorem dX3_toWord_49 : decode cX3_toWord 49 = .ok (.ifCond .ge 8, 3) := by decide +kernel
theorem dX3_toWord_52 : decode cX3_toWord 52 = .ok (.iload_n 3, 1) := by decide +kernel
theorem dX3_toWord_53 : decode cX3_toWord 53 = .ok (.ineg, 1) := by decide +kernel
theorem dX3_toWord_54 : decode cX3_toWord 54 = .ok (.goto 6, 3) := by decide +kernel
theorem dX3_toWord_57 : decode cX3_toWord 57 = .ok (.iload_n 3, 1) := by decide +kernel
theorem dX3_toWord_58 : decode cX3_toWord 58 = .ok (.iconst 1, 1) := by decide +kernel
theorem dX3_toWord_59 : decode cX3_toWord 59 = .ok (.isub, 1) := by decide +kernel
theorem dX3_toWord_60 : decode cX3_toWord 60 = .ok (.ireturn, 1) := by decide +kernel
theorem dX3_toWord_61 : decode cX3_toWord 61 = .ok (.iconst 0, 1) := by decide +kernel
theorem dX3_toWord_62 : decode cX3_toWord 62 = .ok (.ireturn, 1) := by decide +kernel
theorem dX3_toWord_63 : decode cX3_toWord 63 = .ok (.aload_n 0, 1) := by decide +kernel
theorem dX3_toWord_64 : decode cX3_toWord 64 = .ok (.getfield 15, 3) := by decide +kernel
theorem dX3_toWord_67 : decode cX3_toWord 67 = .ok (.iconst 0, 1) := by decide +kernel
theorem dX3_toWord_68 : decode cX3_toWord 68 = .ok (.iaload, 1) := by decide +kernel
theorem dX3_toWord_69 : decode cX3_toWord 69 = .ok (.ireturn, 1) := by decide +kernel
theorem dX3_toWord_70 : decode cX3_toWord 70 = .ok (.sipush (-1005), 3) := by decide +kernel
theorem dX3_toWord_73 : decode cX3_toWord 73 = .ok (.ireturn, 1) := by decide +kernel
theorem dX3_toWord_74 : decode cX3_toWord 74 = .ok (.iload_n 2, 1) := by decide +kernel
theorem dX3_toWord_75 : decode cX3_toWord 75 = .ok (.iload_n 3, 1) := by decide +kernel
theorem dX3_toWord_76 : decode cX3_toWord 76 = .ok (.iadd, 1) := by decide +kernel
theorem dX3_toWord_77 : decode cX3_toWord 77 = .ok (.iconst 2, 1) := by decide +kernel
theorem dX3_toWord_78 : decode cX3_toWord 78 = .ok (.iload_n 3, 1) := by decide +kernel
theorem dX3_toWord_79 : decode cX3_toWord 79 = .ok (.imul, 1) := by decide +kernel
theorem dX3_toWord_80 : decode cX3_toWord 80 = .ok (.iconst 1, 1) := by decide +kernel
theorem dX3_toWord_81 : decode cX3_toWord 81 = .ok (.isub, 1) := by decide +kernel
theorem dX3_toWord_82 : decode cX3_toWord 82 = .ok (.iand, 1) := by decide +kernel
theorem dX3_toWord_83 : decode cX3_toWord 83 = .ok (.iload_n 3, 1) := by decide +kernel
theorem dX3_toWord_84 : decode cX3_toWord 84 = .ok (.isub, 1) := by decide +kernel
theorem dX3_toWord_85 : decode cX3_toWord 85 = .ok (.ireturn, 1) := by decide +kernel
theorem dX4_init_0 : decode cX4_init 0 = .ok (.aload_n 0, 1) := by decide +kernel
theorem dX4_init_1 : decode cX4_init 1 = .ok (.invokespecial 3, 3) := by decide +kernel
theorem dX4_init_4 : decode cX4_init 4 = .ok (.aload_n 0, 1) := by decide +kernel
theorem dX4_init_5 : decode cX4_init 5 = .ok (.bipush 40, 2) := by decide +kernel
theorem dX4_init_7 : decode cX4_init 7 = .ok (.newarray .long, 2) := by decide +kernel
theorem dX4_init_9 : decode cX4_init 9 = .ok (.putfield 9, 3) := by decide +kernel
theorem dX4_init_12 : decode cX4_init 12 = .ok (.aload_n 0, 1) := by decide +kernel
theorem dX4_init_13 : decode cX4_init 13 = .ok (.iconst (-1), 1) := by decide +kernel
theorem dX4_init_14 : decode cX4_init 14 = .ok (.putfield 15, 3) := by decide +kernel
theorem dX4_init_17 : decode cX4_init 17 = .ok (.aload_n 0, 1) := by decide +kernel
theorem dX4_init_18 : decode cX4_init 18 = .ok (.iconst 0, 1) := by decide +kernel
theorem dX4_init_19 : decode cX4_init 19 = .ok (.putfield 19, 3) := by decide +kernel
theorem dX4_init_22 : decode cX4_init 22 = .ok (.return_, 1) := by decide +kernel
theorem dX4_begin_0 : decode cX4_begin 0 = .ok (.aload_n 0, 1) := by decide +kernel
theorem dX4_begin_1 : decode cX4_begin 1 = .ok (.iload_n 1, 1) := by decide +kernel
theorem dX4_begin_2 : decode cX4_begin 2 = .ok (.putfield 15, 3) := by decide +kernel
theorem dX4_begin_5 : decode cX4_begin 5 = .ok (.aload_n 0, 1) := by decide +kernel
theorem dX4_begin_6 : decode cX4_begin 6 = .ok (.iconst 0, 1) := by decide +kernel
theorem dX4_begin_7 : decode cX4_begin 7 = .ok (.iload_n 2, 1) := by decide +kernel
theorem dX4_begin_8 : decode cX4_begin 8 = .ok (.bipush 40, 2) := by decide +kernel
theorem dX4_begin_10 : decode cX4_begin 10 = .ok (.invokestatic 22, 3) := by decide +kernel
theorem dX4_begin_13 : decode cX4_begin 13 = .ok (.invokestatic 28, 3) := by decide +kernel
theorem dX4_begin_16 : decode cX4_begin 16 = .ok (.putfield 19, 3) := by decide +kernel
theorem dX4_begin_19 : decode cX4_begin 19 = .ok (.iconst 0, 1) := by decide +kernel
theorem dX4_begin_20 : decode cX4_begin 20 = .ok (.istore_n 3, 1) := by decide +kernel
theorem dX4_begin_21 : decode cX4_begin 21 = .ok (.iload_n 3, 1) := by decide +kernel
theorem dX4_begin_22 : decode cX4_begin 22 = .ok (.bipush 40, 2) := by decide +kernel
theorem dX4_begin_24 : decode cX4_begin 24 = .ok (.if_icmp .ge 16, 3) := by decide +kernel
theorem dX4_begin_27 : decode cX4_begin 27 = .ok (.aload_n 0, 1) := by decide +kernel
theorem dX4_begin_28 : decode cX4_begin 28 = .ok (.getfield 9, 3) := by decide +kernel
theorem dX4_begin_31 : decode cX4_begin 31 = .ok (.iload_n 3, 1) := by decide +kernel
theorem dX4_begin_32 : decode cX4_begin 32 = .ok (.lconst 0, 1) := by decide +kernel
theorem dX4_begin_33 : decode cX4_begin 33 = .ok (.lastore, 1) := by decide +kernel
theorem dX4_begin_34 : decode cX4_begin 34 = .ok (.iinc 3 1, 3) := by decide +kernel
theorem dX4_begin_37 : decode cX4_begin 37 = .ok (.goto (-16), 3) := by decide +kernel
theorem dX4_begin_40 : decode cX4_begin 40 = .ok (.return_, 1) := by decide +kernel
theorem dX4_has_0 : decode cX4_has 0 = .ok (.iload_n 1, 1) := by decide +kernel
theorem dX4_has_1 : decode cX4_has 1 = .ok (.ifCond .lt 21, 3) := by decide +kernel
theorem dX4_has_4 : decode cX4_has 4 = .ok (.iload_n 1, 1) := by decide +kernel
theorem dX4_has_5 : decode cX4_has 5 = .ok (.aload_n 0, 1) := by decide +kernel
theorem dX4_has_6 : decode cX4_has 6 = .ok (.getfield 19, 3) := by decide +kernel
theorem dX4_has_9 : decode cX4_has 9 = .ok (.if_icmp .ge 13, 3) := by decide +kernel
theorem dX4_has_12 : decode cX4_has 12 = .ok (.iload_n 1, 1) := by decide +kernel
theorem dX4_has_13 : decode cX4_has 13 = .ok (.bipush 40, 2) := by decide +kernel
theorem dX4_has_15 : decode cX4_has 15 = .ok (.if_icmp .ge 7, 3) := by decide +kernel
theorem dX4_has_18 : decode cX4_has 18 = .ok (.iconst 1, 1) := by decide +kernel
theorem dX4_has_19 : decode cX4_has 19 = .ok (.goto 4, 3) := by decide +kernel
theorem dX4_has_22 : decode cX4_has 22 = .ok (.iconst 0, 1) := by decide +kernel
theorem dX4_has_23 : decode cX4_has 23 = .ok (.ireturn, 1) := by decide +kernel
set_option maxRecDepth 20000 in
theorem gw_wsX4_has : wsX4_has.all goodWord = true := by decide +kernel
set_option maxRecDepth 20000 in
theorem ggX4_store_X4_has : GoodIn wsX4_store wsX4_has := goodIn_sub (List.forall_mem_cons.mpr ⟨(List.mem_cons_of_mem _ (List.mem_append_left _ (List.mem_of_getElem? (i := 6) rfl))), List.forall_mem_append.mpr ⟨List.forall_mem_cons.mpr ⟨(List.mem_cons_of_mem _ (List.mem_append_left _ (List.mem_of_getElem? (i := 7) rfl))), fun _ h => absurd h List.not_mem_nil⟩, fun _ h => (List.mem_cons_of_mem _ (List.mem_append_right _ h))⟩⟩) gw_wsX4_has
set_option maxRecDepth 20000 in
theorem gX4_store_X4_has : GoodIn wsX4_store (wsV RX4 31 RX4 yX4_has wsX4_has) := goodIn_app (goodIn_of _ (by decide +kernel)) ggX4_store_X4_has
theorem dX4_store_0 : decode cX4_store 0 = .ok (.aload_n 0, 1) := by decide +kernel
theorem dX4_store_1 : decode cX4_store 1 = .ok (.iload_n 1, 1) := by decide +kernel
theorem dX4_store_2 : decode cX4_store 2 = .ok (.invokevirtual 31, 3) := by decide +kernel
theorem dX4_store_5 : decode cX4_store 5 = .ok (.ifCond .eq 38, 3) := by decide +kernel
theorem dX4_store_8 : decode cX4_store 8 = .ok (.aload_n 0, 1) := by decide +kernel
theorem dX4_store_9 : decode cX4_store 9 = .ok (.getfield 9, 3) := by decide +kernel
theorem dX4_store_12 : decode cX4_store 12 = .ok (.iload_n 1, 1) := by decide +kernel
theorem dX4_store_13 : decode cX4_store 13 = .ok (.aload_n 0, 1) := by decide +kernel
theorem dX4_store_14 : decode cX4_store 14 = .ok (.getfield 15, 3) := by decide +kernel
theorem dX4_store_17 : decode cX4_store 17 = .ok (.ifCond .ne 10, 3) := by decide +kernel
theorem dX4_store_20 : decode cX4_store 20 = .ok (.lload_n 2, 1) := by decide +kernel
theorem dX4_store_21 : decode cX4_store 21 = .ok (.l2i, 1) := by decide +kernel
theorem dX4_store_22 : decode cX4_store 22 = .ok (.i2b, 1) := by decide +kernel
theorem dX4_store_23 : decode cX4_store 23 = .ok (.i2l, 1) := by decide +kernel
theorem dX4_store_24 : decode cX4_store 24 = .ok (.goto 18, 3) := by decide +kernel
theorem dX4_store_27 : decode cX4_store 27 = .ok (.aload_n 0, 1) := by decide +kernel
theorem dX4_store_28 : decode cX4_store 28 = .ok (.getfield 15, 3) := by decide +kernel
theorem dX4_store_31 : decode cX4_store 31 = .ok (.iconst 1, 1) := by decide +kernel
theorem dX4_store_32 : decode cX4_store 32 = .ok (.if_icmp .ne 9, 3) := by decide +kernel
theorem dX4_store_35 : decode cX4_store 35 = .ok (.lload_n 2, 1) := by decide +kernel
theorem dX4_store_36 : decode cX4_store 36 = .ok (.l2i, 1) := by decide +kernel
theorem dX4_store_37 : decode cX4_store 37 = .ok (.i2l, 1) := by decide +kernel
theorem dX4_store_38 : decode cX4_store 38 = .ok (.goto 4, 3) := by decide +kernel
theorem dX4_store_41 : decode cX4_store 41 = .ok (.lload_n 2, 1) := by decide +kernel
theorem dX4_store_42 : decode cX4_store 42 = .ok (.lastore, 1) := by decide +kernel
theorem dX4_store_43 : decode cX4_store 43 = .ok (.return_, 1) := by decide +kernel
set_option maxRecDepth 20000 in
theorem ggX4_inputAt_X4_has : GoodIn wsX4_inputAt wsX4_has := goodIn_sub (List.forall_mem_cons.mpr ⟨(List.mem_cons_of_mem _ (List.mem_append_left _ (List.mem_of_getElem? (i := 14) rfl))), List.forall_mem_append.mpr ⟨List.forall_mem_cons.mpr ⟨(List.mem_cons_of_mem _ (List.mem_append_left _ (List.mem_of_getElem? (i := 15) rfl))), fun _ h => absurd h List.not_mem_nil⟩, fun _ h => (List.mem_cons_of_mem _ (List.mem_append_right _ h))⟩⟩) gw_wsX4_has
set_option maxRecDepth 20000 in
theorem gX4_inputAt_X4_has : GoodIn wsX4_inputAt (wsV RX4 31 RX4 yX4_has wsX4_has) := goodIn_app (goodIn_of _ (by decide +kernel)) ggX4_inputAt_X4_has
theorem dX4_inputAt_0 : decode cX4_inputAt 0 = .ok (.aload_n 0, 1) := by decide +kernel
theorem dX4_inputAt_1 : decode cX4_inputAt 1 = .ok (.iload_n 1, 1) := by decide +kernel
theorem dX4_inputAt_2 : decode cX4_inputAt 2 = .ok (.invokevirtual 31, 3) := by decide +kernel
theorem dX4_inputAt_5 : decode cX4_inputAt 5 = .ok (.ifCond .eq 25, 3) := by decide +kernel
theorem dX4_inputAt_8 : decode cX4_inputAt 8 = .ok (.ldc2_w 35, 3) := by decide +kernel
theorem dX4_inputAt_11 : decode cX4_inputAt 11 = .ok (.ldc2_w 37, 3) := by decide +kernel
theorem dX4_inputAt_14 : decode cX4_inputAt 14 = .ok (.aload_n 0, 1) := by decide +kernel
theorem dX4_inputAt_15 : decode cX4_inputAt 15 = .ok (.getfield 9, 3) := by decide +kernel
theorem dX4_inputAt_18 : decode cX4_inputAt 18 = .ok (.iload_n 1, 1) := by decide +kernel
theorem dX4_inputAt_19 : decode cX4_inputAt 19 = .ok (.laload, 1) := by decide +kernel
theorem dX4_inputAt_20 : decode cX4_inputAt 20 = .ok (.invokestatic 39, 3) := by decide +kernel
theorem dX4_inputAt_23 : decode cX4_inputAt 23 = .ok (.invokestatic 42, 3) := by decide +kernel
theorem dX4_inputAt_26 : decode cX4_inputAt 26 = .ok (.l2i, 1) := by decide +kernel
theorem dX4_inputAt_27 : decode cX4_inputAt 27 = .ok (.goto 4, 3) := by decide +kernel
theorem dX4_inputAt_30 : decode cX4_inputAt 30 = .ok (.iconst 0, 1) := by decide +kernel
theorem dX4_inputAt_31 : decode cX4_inputAt 31 = .ok (.ireturn, 1) := by decide +kernel
theorem dX5_init_0 : decode cX5_init 0 = .ok (.aload_n 0, 1) := by decide +kernel
theorem dX5_init_1 : decode cX5_init 1 = .ok (.invokespecial 3, 3) := by decide +kernel
theorem dX5_init_4 : decode cX5_init 4 = .ok (.aload_n 0, 1) := by decide +kernel
theorem dX5_init_5 : decode cX5_init 5 = .ok (.sipush 1024, 3) := by decide +kernel
theorem dX5_init_8 : decode cX5_init 8 = .ok (.newarray .int, 2) := by decide +kernel
theorem dX5_init_10 : decode cX5_init 10 = .ok (.putfield 9, 3) := by decide +kernel
theorem dX5_init_13 : decode cX5_init 13 = .ok (.aload_n 0, 1) := by decide +kernel
theorem dX5_init_14 : decode cX5_init 14 = .ok (.sipush 1024, 3) := by decide +kernel
theorem dX5_init_17 : decode cX5_init 17 = .ok (.newarray .boolean, 2) := by decide +kernel
theorem dX5_init_19 : decode cX5_init 19 = .ok (.putfield 15, 3) := by decide +kernel
theorem dX5_init_22 : decode cX5_init 22 = .ok (.aload_n 0, 1) := by decide +kernel
theorem dX5_init_23 : decode cX5_init 23 = .ok (.iconst 0, 1) := by decide +kernel
theorem dX5_init_24 : decode cX5_init 24 = .ok (.putfield 19, 3) := by decide +kernel
theorem dX5_init_27 : decode cX5_init 27 = .ok (.aload_n 0, 1) := by decide +kernel
theorem dX5_init_28 : decode cX5_init 28 = .ok (.iconst 0, 1) := by decide +kernel
theorem dX5_init_29 : decode cX5_init 29 = .ok (.putfield 23, 3) := by decide +kernel
theorem dX5_init_32 : decode cX5_init 32 = .ok (.return_, 1) := by decide +kernel
set_option maxRecDepth 20000 in
theorem gw_wsX5_zeroIn : wsX5_zeroIn.all goodWord = true := by decide +kernel
set_option maxRecDepth 20000 in
theorem ggX5_search_X5_zeroIn : GoodIn wsX5_search wsX5_zeroIn := goodIn_sub (List.forall_mem_cons.mpr ⟨(List.mem_cons_of_mem _ (List.mem_append_left _ (List.mem_append_left _ (List.mem_append_left _ (List.mem_of_getElem? (i := 7) rfl))))), List.forall_mem_append.mpr ⟨List.forall_mem_cons.mpr ⟨(List.mem_cons_of_mem _ (List.mem_append_left _ (List.mem_append_left _ (List.mem_append_left _ (List.mem_of_getElem? (i := 8) rfl))))), List.forall_mem_cons.mpr ⟨(List.mem_cons_of_mem _ (List.mem_append_left _ (List.mem_append_left _ (List.mem_append_left _ (List.mem_of_getElem? (i := 9) rfl))))), List.forall_mem_cons.mpr ⟨(List.mem_cons_of_mem _ (List.mem_append_left _ (List.mem_append_left _ (List.mem_append_left _ (List.mem_of_getElem? (i := 10) rfl))))), List.forall_mem_cons.mpr ⟨(List.mem_cons_of_mem _ (List.mem_append_left _ (List.mem_append_left _ (List.mem_append_left _ (List.mem_of_getElem? (i := 11) rfl))))), List.forall_mem_cons.mpr ⟨(List.mem_cons_of_mem _ (List.mem_append_left _ (List.mem_append_left _ (List.mem_append_left _ (List.mem_of_getElem? (i := 12) rfl))))), List.forall_mem_cons.mpr ⟨(List.mem_cons_of_mem _ (List.mem_append_left _ (List.mem_append_left _ (List.mem_append_left _ (List.mem_of_getElem? (i := 13) rfl))))), List.forall_mem_cons.mpr ⟨(List.mem_cons_of_mem _ (List.mem_append_left _ (List.mem_append_left _ (List.mem_append_left _ (List.mem_of_getElem? (i := 14) rfl))))), List.forall_mem_cons.mpr ⟨(List.mem_cons_of_mem _ (List.mem_append_left _ (List.mem_append_left _ (List.mem_append_left _ (List.mem_of_getElem? (i := 15) rfl))))), List.forall_mem_cons.mpr ⟨(List.mem_cons_of_mem _ (List.mem_append_left _ (List.mem_append_left _ (List.mem_append_left _ (List.mem_of_getElem? (i := 16) rfl))))), List.forall_mem_cons.mpr ⟨(List.mem_cons_of_mem _ (List.mem_append_left _ (List.mem_append_left _ (List.mem_append_left _ (List.mem_of_getElem? (i := 17) rfl))))), List.forall_mem_cons.mpr ⟨(List.mem_cons_of_mem _ (List.mem_append_left _ (List.mem_append_left _ (List.mem_append_left _ (List.mem_of_getElem? (i := 18) rfl))))), List.forall_mem_cons.mpr ⟨(List.mem_cons_of_mem _ (List.mem_append_left _ (List.mem_append_left _ (List.mem_append_left _ (List.mem_of_getElem? (i := 19) rfl))))), fun _ h => absurd h List.not_mem_nil⟩⟩⟩⟩⟩⟩⟩⟩⟩⟩⟩⟩, fun _ h => (List.mem_cons_of_mem _ (List.mem_append_right _ h))⟩⟩) gw_wsX5_zeroIn
set_option maxRecDepth 20000 in
theorem gX5_search_X5_zeroIn : GoodIn wsX5_search (va_wsS RX5 27 yX5_zeroIn wsX5_zeroIn) := goodIn_app (goodIn_of _ (by decide +kernel)) ggX5_search_X5_zeroIn
set_option maxRecDepth 20000 in
theorem gw_wsX5_find : wsX5_find.all goodWord = true := by decide +kernel
set_option maxRecDepth 20000 in
theorem ggX5_search_X5_find : GoodIn wsX5_search wsX5_find := goodIn_sub (List.forall_mem_cons.mpr ⟨(List.mem_cons_of_mem _ (List.mem_append_left _ (List.mem_append_left _ (List.mem_append_left _ (List.mem_of_getElem? (i := 23) rfl))))), List.forall_mem_append.mpr ⟨List.forall_mem_cons.mpr ⟨(List.mem_cons_of_mem _ (List.mem_append_left _ (List.mem_append_left _ (List.mem_append_left _ (List.mem_of_getElem? (i := 0) rfl))))), List.forall_mem_cons.mpr ⟨(List.mem_cons_of_mem _ (List.mem_append_left _ (List.mem_append_left _ (List.mem_append_left _ (List.mem_of_getElem? (i := 1) rfl))))), List.forall_mem_cons.mpr ⟨(List.mem_cons_of_mem _ (List.mem_append_left _ (List.mem_append_left _ (List.mem_append_left _ (List.mem_of_getElem? (i := 3) rfl))))), fun _ h => absurd h List.not_mem_nil⟩⟩⟩, fun _ h => (List.mem_cons_of_mem _ (List.mem_append_left _ (List.mem_append_right _ h)))⟩⟩) gw_wsX5_find
set_option maxRecDepth 20000 in
theorem gX5_search_X5_find : GoodIn wsX5_search (wsV RX5 31 RX5 yX5_find wsX5_find) := goodIn_app (goodIn_of _ (by decide +kernel)) ggX5_search_X5_find
set_option maxRecDepth 20000 in
theorem gw_wsX5_leadOn : wsX5_leadOn.all goodWord = true := by decide +kernel
set_option maxRecDepth 20000 in
theorem ggX5_search_X5_leadOn : GoodIn wsX5_search wsX5_leadOn := goodIn_sub (List.forall_mem_cons.mpr ⟨(List.mem_cons_of_mem _ (List.mem_append_left _ (List.mem_append_left _ (List.mem_append_right _ (List.mem_append_left _ (List.mem_of_getElem? (i := 3) rfl)))))), List.forall_mem_append.mpr ⟨List.forall_mem_append.mpr ⟨List.forall_mem_append.mpr ⟨List.forall_mem_cons.mpr ⟨(List.mem_cons_of_mem _ (List.mem_append_left _ (List.mem_append_left _ (List.mem_append_left _ (List.mem_of_getElem? (i := 2) rfl))))), List.forall_mem_cons.mpr ⟨(List.mem_cons_of_mem _ (List.mem_append_left _ (List.mem_append_left _ (List.mem_append_right _ (List.mem_append_left _ (List.mem_of_getElem? (i := 4) rfl)))))), List.forall_mem_cons.mpr ⟨(List.mem_cons_of_mem _ (List.mem_append_left _ (List.mem_append_left _ (List.mem_append_right _ (List.mem_append_left _ (List.mem_of_getElem? (i := 5) rfl)))))), List.forall_mem_cons.mpr ⟨(List.mem_cons_of_mem _ (List.mem_append_left _ (List.mem_append_left _ (List.mem_append_right _ (List.mem_append_left _ (List.mem_of_getElem? (i := 6) rfl)))))), List.forall_mem_cons.mpr ⟨(List.mem_cons_of_mem _ (List.mem_append_left _ (List.mem_append_left _ (List.mem_append_right _ (List.mem_append_left _ (List.mem_of_getElem? (i := 7) rfl)))))), List.forall_mem_cons.mpr ⟨(List.mem_cons_of_mem _ (List.mem_append_left _ (List.mem_append_left _ (List.mem_append_right _ (List.mem_append_left _ (List.mem_of_getElem? (i := 8) rfl)))))), List.forall_mem_cons.mpr ⟨(List.mem_cons_of_mem _ (List.mem_append_left _ (List.mem_append_left _ (List.mem_append_left _ (List.mem_of_getElem? (i := 12) rfl))))), List.forall_mem_cons.mpr ⟨(List.mem_cons_of_mem _ (List.mem_append_left _ (List.mem_append_left _ (List.mem_append_right _ (List.mem_append_left _ (List.mem_of_getElem? (i := 9) rfl)))))), List.forall_mem_cons.mpr ⟨(List.mem_cons_of_mem _ (List.mem_append_left _ (List.mem_append_left _ (List.mem_append_left _ (List.mem_of_getElem? (i := 14) rfl))))), List.forall_mem_cons.mpr ⟨(List.mem_cons_of_mem _ (List.mem_append_left _ (List.mem_append_left _ (List.mem_append_right _ (List.mem_append_left _ (List.mem_of_getElem? (i := 10) rfl)))))), List.forall_mem_cons.mpr ⟨(List.mem_cons_of_mem _ (List.mem_append_left _ (List.mem_append_left _ (List.mem_append_right _ (List.mem_append_left _ (List.mem_of_getElem? (i := 11) rfl)))))), List.forall_mem_cons.mpr ⟨(List.mem_cons_of_mem _ (List.mem_append_left _ (List.mem_append_left _ (List.mem_append_right _ (List.mem_append_left _ (List.mem_of_getElem? (i := 12) rfl)))))), List.forall_mem_cons.mpr ⟨(List.mem_cons_of_mem _ (List.mem_append_left _ (List.mem_append_left _ (List.mem_append_right _ (List.mem_append_left _ (List.mem_of_getElem? (i := 13) rfl)))))), List.forall_mem_cons.mpr ⟨(List.mem_cons_of_mem _ (List.mem_append_left _ (List.mem_append_left _ (List.mem_append_left _ (List.mem_of_getElem? (i := 15) rfl))))), List.forall_mem_cons.mpr ⟨(List.mem_cons_of_mem _ (List.mem_append_left _ (List.mem_append_left _ (List.mem_append_left _ (List.mem_of_getElem? (i := 16) rfl))))), List.forall_mem_cons.mpr ⟨(List.mem_cons_of_mem _ (List.mem_append_left _ (List.mem_append_left _ (List.mem_append_left _ (List.mem_of_getElem? (i := 17) rfl))))), List.forall_mem_cons.mpr ⟨(List.mem_cons_of_mem _ (List.mem_append_left _ (List.mem_append_left _ (List.mem_append_left _ (List.mem_of_getElem? (i := 18) rfl))))), List.forall_mem_cons.mpr ⟨(List.mem_cons_of_mem _ (List.mem_append_left _ (List.mem_append_left _ (List.mem_append_left _ (List.mem_of_getElem? (i := 19) rfl))))), List.forall_mem_cons.mpr ⟨(List.mem_cons_of_mem _ (List.mem_append_left _ (List.mem_append_left _ (List.mem_append_right _ (List.mem_append_left _ (List.mem_of_getElem? (i := 14) rfl)))))), List.forall_mem_cons.mpr ⟨(List.mem_cons_of_mem _ (List.mem_append_left _ (List.mem_append_left _ (List.mem_append_right _ (List.mem_append_left _ (List.mem_of_getElem? (i := 15) rfl)))))), List.forall_mem_cons.mpr ⟨(List.mem_cons_of_mem _ (List.mem_append_left _ (List.mem_append_left _ (List.mem_append_right _ (List.mem_append_left _ (List.mem_of_getElem? (i := 16) rfl)))))), List.forall_mem_cons.mpr ⟨(List.mem_cons_of_mem _ (List.mem_append_left _ (List.mem_append_left _ (List.mem_append_right _ (List.mem_append_left _ (List.mem_of_getElem? (i := 17) rfl)))))), List.forall_mem_cons.mpr ⟨(List.mem_cons_of_mem _ (List.mem_append_left _ (List.mem_append_left _ (List.mem_append_right _ (List.mem_append_left _ (List.mem_of_getElem? (i := 18) rfl)))))), List.forall_mem_cons.mpr ⟨(List.mem_cons_of_mem _ (List.mem_append_left _ (List.mem_append_left _ (List.mem_append_right _ (List.mem_append_left _ (List.mem_of_getElem? (i := 19) rfl)))))), fun _ h => absurd h List.not_mem_nil⟩⟩⟩⟩⟩⟩⟩⟩⟩⟩⟩⟩⟩⟩⟩⟩⟩⟩⟩⟩⟩⟩⟩⟩, List.forall_mem_append.mpr ⟨List.forall_mem_cons.mpr ⟨(List.mem_cons_of_mem _ (List.mem_append_left _ (List.mem_append_left _ (List.mem_append_right _ (List.mem_append_left _ (List.mem_of_getElem? (i := 20) rfl)))))), List.forall_mem_cons.mpr ⟨(List.mem_cons_of_mem _ (List.mem_append_left _ (List.mem_append_left _ (List.mem_append_right _ (List.mem_append_left _ (List.mem_of_getElem? (i := 21) rfl)))))), List.forall_mem_cons.mpr ⟨(List.mem_cons_of_mem _ (List.mem_append_left _ (List.mem_append_left _ (List.mem_append_right _ (List.mem_append_left _ (List.mem_of_getElem? (i := 22) rfl)))))), List.forall_mem_cons.mpr ⟨(List.mem_cons_of_mem _ (List.mem_append_left _ (List.mem_append_left _ (List.mem_append_right _ (List.mem_append_left _ (List.mem_of_getElem? (i := 23) rfl)))))), List.forall_mem_cons.mpr ⟨(List.mem_cons_of_mem _ (List.mem_append_left _ (List.mem_append_left _ (List.mem_append_right _ (List.mem_append_right _ (List.mem_of_getElem? (i := 0) rfl)))))), List.forall_mem_cons.mpr ⟨(List.mem_cons_of_mem _ (List.mem_append_left _ (List.mem_append_left _ (List.mem_append_right _ (List.mem_append_right _ (List.mem_of_getElem? (i := 1) rfl)))))), List.forall_mem_cons.mpr ⟨(List.mem_cons_of_mem _ (List.mem_append_left _ (List.mem_append_left _ (List.mem_append_right _ (List.mem_append_right _ (List.mem_of_getElem? (i := 2) rfl)))))), List.forall_mem_cons.mpr ⟨(List.mem_cons_of_mem _ (List.mem_append_left _ (List.mem_append_left _ (List.mem_append_right _ (List.mem_append_right _ (List.mem_of_getElem? (i := 3) rfl)))))), List.forall_mem_cons.mpr ⟨(List.mem_cons_of_mem _ (List.mem_append_left _ (List.mem_append_left _ (List.mem_append_right _ (List.mem_append_right _ (List.mem_of_getElem? (i := 4) rfl)))))), List.forall_mem_cons.mpr ⟨(List.mem_cons_of_mem _ (List.mem_append_left _ (List.mem_append_left _ (List.mem_append_right _ (List.mem_append_right _ (List.mem_of_getElem? (i := 5) rfl)))))), List.forall_mem_cons.mpr ⟨(List.mem_cons_of_mem _ (List.mem_append_left _ (List.mem_append_left _ (List.mem_append_right _ (List.mem_append_right _ (List.mem_of_getElem? (i := 6) rfl)))))), List.forall_mem_cons.mpr ⟨(List.mem_cons_of_mem _ (List.mem_append_left _ (List.mem_append_left _ (List.mem_append_right _ (List.mem_append_right _ (List.mem_of_getElem? (i := 7) rfl)))))), List.forall_mem_cons.mpr ⟨(List.mem_cons_of_mem _ (List.mem_append_left _ (List.mem_append_left _ (List.mem_append_right _ (List.mem_append_right _ (List.mem_of_getElem? (i := 8) rfl)))))), List.forall_mem_cons.mpr ⟨(List.mem_cons_of_mem _ (List.mem_append_left _ (List.mem_append_left _ (List.mem_append_right _ (List.mem_append_right _ (List.mem_of_getElem? (i := 9) rfl)))))), List.forall_mem_cons.mpr ⟨(List.mem_cons_of_mem _ (List.mem_append_left _ (List.mem_append_left _ (List.mem_append_right _ (List.mem_append_right _ (List.mem_of_getElem? (i := 10) rfl)))))), List.forall_mem_cons.mpr ⟨(List.mem_cons_of_mem _ (List.mem_append_left _ (List.mem_append_left _ (List.mem_append_right _ (List.mem_append_right _ (List.mem_of_getElem? (i := 11) rfl)))))), List.forall_mem_cons.mpr ⟨(List.mem_cons_of_mem _ (List.mem_append_left _ (List.mem_append_left _ (List.mem_append_right _ (List.mem_append_right _ (List.mem_of_getElem? (i := 12) rfl)))))), List.forall_mem_cons.mpr ⟨(List.mem_cons_of_mem _ (List.mem_append_left _ (List.mem_append_left _ (List.mem_append_right _ (List.mem_append_right _ (List.mem_of_getElem? (i := 13) rfl)))))), List.forall_mem_cons.mpr ⟨(List.mem_cons_of_mem _ (List.mem_append_left _ (List.mem_append_left _ (List.mem_append_right _ (List.mem_append_right _ (List.mem_of_getElem? (i := 14) rfl)))))), List.forall_mem_cons.mpr ⟨(List.mem_cons_of_mem _ (List.mem_append_left _ (List.mem_append_left _ (List.mem_append_right _ (List.mem_append_right _ (List.mem_of_getElem? (i := 15) rfl)))))), List.forall_mem_cons.mpr ⟨(List.mem_cons_of_mem _ (List.mem_append_left _ (List.mem_append_left _ (List.mem_append_right _ (List.mem_append_right _ (List.mem_of_getElem? (i := 16) rfl)))))), List.forall_mem_cons.mpr ⟨(List.mem_cons_of_mem _ (List.mem_append_left _ (List.mem_append_left _ (List.mem_append_right _ (List.mem_append_right _ (List.mem_of_getElem? (i := 17) rfl)))))), List.forall_mem_cons.mpr ⟨(List.mem_cons_of_mem _ (List.mem_append_left _ (List.mem_append_left _ (List.mem_append_right _ (List.mem_append_right _ (List.mem_of_getElem? (i := 18) rfl)))))), List.forall_mem_cons.mpr ⟨(List.mem_cons_of_mem _ (List.mem_append_left _ (List.mem_append_left _ (List.mem_append_right _ (List.mem_append_right _ (List.mem_of_getElem? (i := 19) rfl)))))), fun _ h => absurd h List.not_mem_nil⟩⟩⟩⟩⟩⟩⟩⟩⟩⟩⟩⟩⟩⟩⟩⟩⟩⟩⟩⟩⟩⟩⟩⟩, List.forall_mem_cons.mpr ⟨(List.mem_cons_of_mem _ (List.mem_append_left _ (List.mem_append_left _ (List.mem_append_right _ (List.mem_append_right _ (List.mem_of_getElem? (i := 20) rfl)))))), List.forall_mem_cons.mpr ⟨(List.mem_cons_of_mem _ (List.mem_append_left _ (List.mem_append_left _ (List.mem_append_right _ (List.mem_append_right _ (List.mem_of_getElem? (i := 21) rfl)))))), List.forall_mem_cons.mpr ⟨(List.mem_cons_of_mem _ (List.mem_append_left _ (List.mem_append_left _ (List.mem_append_right _ (List.mem_append_right _ (List.mem_of_getElem? (i := 22) rfl)))))), List.forall_mem_cons.mpr ⟨(List.mem_cons_of_mem _ (List.mem_append_left _ (List.mem_append_left _ (List.mem_append_right _ (List.mem_append_right _ (List.mem_of_getElem? (i := 23) rfl)))))), List.forall_mem_cons.mpr ⟨(List.mem_cons_of_mem _ (List.mem_append_left _ (List.mem_append_left _ (List.mem_append_left _ (List.mem_of_getElem? (i := 20) rfl))))), List.forall_mem_cons.mpr ⟨(List.mem_cons_of_mem _ (List.mem_append_left _ (List.mem_append_left _ (List.mem_append_left _ (List.mem_of_getElem? (i := 21) rfl))))), List.forall_mem_cons.mpr ⟨(List.mem_cons_of_mem _ (List.mem_append_left _ (List.mem_append_left _ (List.mem_append_left _ (List.mem_of_getElem? (i := 22) rfl))))), List.forall_mem_cons.mpr ⟨(List.mem_cons_of_mem _ (List.mem_append_left _ (List.mem_append_left _ (List.mem_append_left _ (List.mem_of_getElem? (i := 6) rfl))))), List.forall_mem_cons.mpr ⟨(List.mem_cons_of_mem _ (List.mem_append_left _ (List.mem_append_left _ (List.mem_append_left _ (List.mem_of_getElem? (i := 23) rfl))))), List.forall_mem_cons.mpr ⟨(List.mem_cons_of_mem _ (List.mem_append_left _ (List.mem_append_left _ (List.mem_append_left _ (List.mem_of_getElem? (i := 0) rfl))))), List.forall_mem_cons.mpr ⟨(List.mem_cons_of_mem _ (List.mem_append_left _ (List.mem_append_left _ (List.mem_append_left _ (List.mem_of_getElem? (i := 1) rfl))))), List.forall_mem_cons.mpr ⟨(List.mem_cons_of_mem _ (List.mem_append_left _ (List.mem_append_left _ (List.mem_append_left _ (List.mem_of_getElem? (i := 3) rfl))))), fun _ h => absurd h List.not_mem_nil⟩⟩⟩⟩⟩⟩⟩⟩⟩⟩⟩⟩⟩⟩, fun _ h => (List.mem_cons_of_mem _ (List.mem_append_left _ (List.mem_append_right _ h)))⟩, fun _ h => (List.mem_cons_of_mem _ (List.mem_append_right _ h))⟩⟩) gw_wsX5_leadOn
set_option maxRecDepth 20000 in
theorem gX5_search_X5_leadOn : GoodIn wsX5_search (wsV RX5 35 RX5 yX5_leadOn wsX5_leadOn) := goodIn_app (goodIn_of _ (by decide +kernel)) ggX5_search_X5_leadOn
theorem dX5_search_0 : decode cX5_search 0 = .ok (.iconst 0, 1) := by decide +kernel
theorem dX5_search_1 : decode cX5_search 1 = .ok (.istore 4, 2) := by decide +kernel
theorem dX5_search_3 : decode cX5_search 3 = .ok (.iload 4, 2) := by decide +kernel
theorem dX5_search_5 : decode cX5_search 5 = .ok (.sipush 1024, 3) := by decide +kernel
theorem dX5_search_8 : decode cX5_search 8 = .ok (.if_icmp .ge 17, 3) := by decide +kernel
theorem dX5_search_11 : decode cX5_search 11 = .ok (.aload_n 0, 1) := by decide +kernel
theorem dX5_search_12 : decode cX5_search 12 = .ok (.getfield 15, 3) := by decide +kernel
theorem dX5_search_15 : decode cX5_search 15 = .ok (.iload 4, 2) := by decide +kernel
theorem dX5_search_17 : decode cX5_search 17 = .ok (.iconst 0, 1) := by decide +kernel
theorem dX5_search_18 : decode cX5_search 18 = .ok (.bastore, 1) := by decide +kernel
theorem dX5_search_19 : decode cX5_search 19 = .ok (.iinc 4 1, 3) := by decide +kernel
theorem dX5_search_22 : decode cX5_search 22 = .ok (.goto (-19), 3) := by decide +kernel
theorem dX5_search_25 : decode cX5_search 25 = .ok (.aload_n 0, 1) := by decide +kernel
theorem dX5_search_26 : decode cX5_search 26 = .ok (.iconst 0, 1) := by decide +kernel
theorem dX5_search_27 : decode cX5_search 27 = .ok (.putfield 19, 3) := by decide +kernel
theorem dX5_search_30 : decode cX5_search 30 = .ok (.aload_n 0, 1) := by decide +kernel
theorem dX5_search_31 : decode cX5_search 31 = .ok (.iconst 0, 1) := by decide +kernel
theorem dX5_search_32 : decode cX5_search 32 = .ok (.putfield 23, 3) := by decide +kernel
theorem dX5_search_35 : decode cX5_search 35 = .ok (.aload_n 0, 1) := by decide +kernel
theorem dX5_search_36 : decode cX5_search 36 = .ok (.aload_n 1, 1) := by decide +kernel
theorem dX5_search_37 : decode cX5_search 37 = .ok (.invokestatic 27, 3) := by decide +kernel
theorem dX5_search_40 : decode cX5_search 40 = .ok (.invokevirtual 31, 3) := by decide +kernel
theorem dX5_search_43 : decode cX5_search 43 = .ok (.iconst 0, 1) := by decide +kernel
theorem dX5_search_44 : decode cX5_search 44 = .ok (.istore 4, 2) := by decide +kernel
theorem dX5_search_46 : decode cX5_search 46 = .ok (.iload 4, 2) := by decide +kernel
theorem dX5_search_48 : decode cX5_search 48 = .ok (.aload_n 0, 1) := by decide +kernel
theorem dX5_search_49 : decode cX5_search 49 = .ok (.getfield 19, 3) := by decide +kernel
theorem dX5_search_52 : decode cX5_search 52 = .ok (.if_icmp .ge 41, 3) := by decide +kernel
theorem dX5_search_55 : decode cX5_search 55 = .ok (.iload 4, 2) := by decide +kernel
theorem dX5_search_57 : decode cX5_search 57 = .ok (.sipush 1024, 3) := by decide +kernel
theorem dX5_search_60 : decode cX5_search 60 = .ok (.if_icmp .ge 33, 3) := by decide +kernel
theorem dX5_search_63 : decode cX5_search 63 = .ok (.aload_n 0, 1) := by decide +kernel
theorem dX5_search_64 : decode cX5_search 64 = .ok (.getfield 23, 3) := by decide +kernel
theorem dX5_search_67 : decode cX5_search 67 = .ok (.ifCond .eq 7, 3) := by decide +kernel
theorem dX5_search_70 : decode cX5_search 70 = .ok (.iload_n 3, 1) := by decide +kernel
theorem dX5_search_71 : decode cX5_search 71 = .ok (.ifCond .ne 22, 3) := by decide +kernel
theorem dX5_search_74 : decode cX5_search 74 = .ok (.aload_n 0, 1) := by decide +kernel
theorem dX5_search_75 : decode cX5_search 75 = .ok (.aload_n 1, 1) := by decide +kernel
theorem dX5_search_76 : decode cX5_search 76 = .ok (.aload_n 0, 1) := by decide +kernel
theorem dX5_search_77 : decode cX5_search 77 = .ok (.getfield 9, 3) := by decide +kernel
theorem dX5_search_80 : decode cX5_search 80 = .ok (.iload 4, 2) := by decide +kernel
theorem dX5_search_82 : decode cX5_search 82 = .ok (.iaload, 1) := by decide +kernel
theorem dX5_search_83 : decode cX5_search 83 = .ok (.iload_n 2, 1) := by decide +kernel
theorem dX5_search_84 : decode cX5_search 84 = .ok (.invokevirtual 35, 3) := by decide +kernel
theorem dX5_search_87 : decode cX5_search 87 = .ok (.iinc 4 1, 3) := by decide +kernel
theorem dX5_search_90 : decode cX5_search 90 = .ok (.goto (-44), 3) := by decide +kernel
theorem dX5_search_93 : decode cX5_search 93 = .ok (.return_, 1) := by decide +kernel
set_option maxRecDepth 20000 in
theorem gw_wsX3_packed : wsX3_packed.all goodWord = true := by decide +kernel
set_option maxRecDepth 20000 in
theorem ggX5_zeroIn_X3_packed : GoodIn wsX5_zeroIn wsX3_packed := goodIn_sub (List.forall_mem_cons.mpr ⟨(List.mem_cons_of_mem _ (List.mem_append_left _ (List.mem_of_getElem? (i := 5) rfl))), List.forall_mem_append.mpr ⟨List.forall_mem_cons.mpr ⟨(List.mem_cons_of_mem _ (List.mem_append_left _ (List.mem_of_getElem? (i := 6) rfl))), List.forall_mem_cons.mpr ⟨(List.mem_cons_of_mem _ (List.mem_append_left _ (List.mem_of_getElem? (i := 7) rfl))), List.forall_mem_cons.mpr ⟨(List.mem_cons_of_mem _ (List.mem_append_left _ (List.mem_of_getElem? (i := 8) rfl))), List.forall_mem_cons.mpr ⟨(List.mem_cons_of_mem _ (List.mem_append_left _ (List.mem_of_getElem? (i := 9) rfl))), List.forall_mem_cons.mpr ⟨(List.mem_cons_of_mem _ (List.mem_append_left _ (List.mem_of_getElem? (i := 10) rfl))), List.forall_mem_cons.mpr ⟨(List.mem_cons_of_mem _ (List.mem_append_left _ (List.mem_of_getElem? (i := 4) rfl))), List.forall_mem_cons.mpr ⟨(List.mem_cons_of_mem _ (List.mem_append_left _ (List.mem_of_getElem? (i := 11) rfl))), fun _ h => absurd h List.not_mem_nil⟩⟩⟩⟩⟩⟩⟩, fun _ h => (List.mem_cons_of_mem _ (List.mem_append_right _ h))⟩⟩) gw_wsX3_packed
set_option maxRecDepth 20000 in
theorem gX5_zeroIn_X3_packed : GoodIn wsX5_zeroIn (wsV RX5 44 RX3 yX3_packed wsX3_packed) := goodIn_app (goodIn_of _ (by decide +kernel)) ggX5_zeroIn_X3_packed
theorem dX5_zeroIn_0 : decode cX5_zeroIn 0 = .ok (.iconst 0, 1) := by decide +kernel
theorem dX5_zeroIn_1 : decode cX5_zeroIn 1 = .ok (.istore_n 1, 1) := by decide +kernel
theorem dX5_zeroIn_2 : decode cX5_zeroIn 2 = .ok (.iload_n 1, 1) := by decide +kernel
theorem dX5_zeroIn_3 : decode cX5_zeroIn 3 = .ok (.iconst 3, 1) := by decide +kernel
theorem dX5_zeroIn_4 : decode cX5_zeroIn 4 = .ok (.if_icmp .ge 16, 3) := by decide +kernel
theorem dX5_zeroIn_7 : decode cX5_zeroIn 7 = .ok (.aload_n 0, 1) := by decide +kernel
theorem dX5_zeroIn_8 : decode cX5_zeroIn 8 = .ok (.getfield 39, 3) := by decide +kernel
theorem dX5_zeroIn_11 : decode cX5_zeroIn 11 = .ok (.iload_n 1, 1) := by decide +kernel
theorem dX5_zeroIn_12 : decode cX5_zeroIn 12 = .ok (.iconst 0, 1) := by decide +kernel
theorem dX5_zeroIn_13 : decode cX5_zeroIn 13 = .ok (.iastore, 1) := by decide +kernel
theorem dX5_zeroIn_14 : decode cX5_zeroIn 14 = .ok (.iinc 1 1, 3) := by decide +kernel
theorem dX5_zeroIn_17 : decode cX5_zeroIn 17 = .ok (.goto (-15), 3) := by decide +kernel
theorem dX5_zeroIn_20 : decode cX5_zeroIn 20 = .ok (.aload_n 0, 1) := by decide +kernel
theorem dX5_zeroIn_21 : decode cX5_zeroIn 21 = .ok (.invokevirtual 44, 3) := by decide +kernel
theorem dX5_zeroIn_24 : decode cX5_zeroIn 24 = .ok (.ireturn, 1) := by decide +kernel
set_option maxRecDepth 20000 in
theorem gw_wsX3_unpack : wsX3_unpack.all goodWord = true := by decide +kernel
set_option maxRecDepth 20000 in
theorem ggX5_leadOn_X3_unpack : GoodIn wsX5_leadOn wsX3_unpack := goodIn_sub (List.forall_mem_cons.mpr ⟨(List.mem_cons_of_mem _ (List.mem_append_left _ (List.mem_append_left _ (List.mem_append_left _ (List.mem_of_getElem? (i := 7) rfl))))), List.forall_mem_append.mpr ⟨List.forall_mem_cons.mpr ⟨(List.mem_cons_of_mem _ (List.mem_append_left _ (List.mem_append_left _ (List.mem_append_left _ (List.mem_of_getElem? (i := 8) rfl))))), List.forall_mem_cons.mpr ⟨(List.mem_cons_of_mem _ (List.mem_append_left _ (List.mem_append_left _ (List.mem_append_left _ (List.mem_of_getElem? (i := 9) rfl))))), List.forall_mem_cons.mpr ⟨(List.mem_cons_of_mem _ (List.mem_append_left _ (List.mem_append_left _ (List.mem_append_left _ (List.mem_of_getElem? (i := 10) rfl))))), List.forall_mem_cons.mpr ⟨(List.mem_cons_of_mem _ (List.mem_append_left _ (List.mem_append_left _ (List.mem_append_left _ (List.mem_of_getElem? (i := 11) rfl))))), List.forall_mem_cons.mpr ⟨(List.mem_cons_of_mem _ (List.mem_append_left _ (List.mem_append_left _ (List.mem_append_left _ (List.mem_of_getElem? (i := 12) rfl))))), List.forall_mem_cons.mpr ⟨(List.mem_cons_of_mem _ (List.mem_append_left _ (List.mem_append_left _ (List.mem_append_left _ (List.mem_of_getElem? (i := 13) rfl))))), List.forall_mem_cons.mpr ⟨(List.mem_cons_of_mem _ (List.mem_append_left _ (List.mem_append_left _ (List.mem_append_left _ (List.mem_of_getElem? (i := 14) rfl))))), List.forall_mem_cons.mpr ⟨(List.mem_cons_of_mem _ (List.mem_append_left _ (List.mem_append_left _ (List.mem_append_left _ (List.mem_of_getElem? (i := 15) rfl))))), List.forall_mem_cons.mpr ⟨(List.mem_cons_of_mem _ (List.mem_append_left _ (List.mem_append_left _ (List.mem_append_left _ (List.mem_of_getElem? (i := 16) rfl))))), List.forall_mem_cons.mpr ⟨(List.mem_cons_of_mem _ (List.mem_append_left _ (List.mem_append_left _ (List.mem_append_left _ (List.mem_of_getElem? (i := 6) rfl))))), List.forall_mem_cons.mpr ⟨(List.mem_cons_of_mem _ (List.mem_append_left _ (List.mem_append_left _ (List.mem_append_left _ (List.mem_of_getElem? (i := 17) rfl))))), fun _ h => absurd h List.not_mem_nil⟩⟩⟩⟩⟩⟩⟩⟩⟩⟩⟩, fun _ h => (List.mem_cons_of_mem _ (List.mem_append_right _ h))⟩⟩) gw_wsX3_unpack
set_option maxRecDepth 20000 in
theorem gX5_leadOn_X3_unpack : GoodIn wsX5_leadOn (wsV RX5 48 RX3 yX3_unpack wsX3_unpack) := goodIn_app (goodIn_of _ (by decide +kernel)) ggX5_leadOn_X3_unpack
set_option maxRecDepth 20000 in
theorem ggX5_leadOn_X3_gather : GoodIn wsX5_leadOn wsX3_gather := goodIn_sub (List.forall_mem_cons.mpr ⟨(List.mem_cons_of_mem _ (List.mem_append_left _ (List.mem_append_left _ (List.mem_append_left _ (List.mem_of_getElem? (i := 21) rfl))))), List.forall_mem_append.mpr ⟨List.forall_mem_cons.mpr ⟨(List.mem_cons_of_mem _ (List.mem_append_left _ (List.mem_append_left _ (List.mem_append_left _ (List.mem_of_getElem? (i := 22) rfl))))), List.forall_mem_cons.mpr ⟨(List.mem_cons_of_mem _ (List.mem_append_left _ (List.mem_append_left _ (List.mem_append_left _ (List.mem_of_getElem? (i := 23) rfl))))), List.forall_mem_cons.mpr ⟨(List.mem_cons_of_mem _ (List.mem_append_left _ (List.mem_append_left _ (List.mem_append_left _ (List.mem_of_getElem? (i := 8) rfl))))), List.forall_mem_cons.mpr ⟨(List.mem_cons_of_mem _ (List.mem_append_left _ (List.mem_append_left _ (List.mem_append_left _ (List.mem_of_getElem? (i := 13) rfl))))), List.forall_mem_cons.mpr ⟨(List.mem_cons_of_mem _ (List.mem_append_left _ (List.mem_append_left _ (List.mem_append_right _ (List.mem_append_left _ (List.mem_of_getElem? (i := 0) rfl)))))), List.forall_mem_cons.mpr ⟨(List.mem_cons_of_mem _ (List.mem_append_left _ (List.mem_append_left _ (List.mem_append_right _ (List.mem_append_left _ (List.mem_of_getElem? (i := 1) rfl)))))), List.forall_mem_cons.mpr ⟨(List.mem_cons_of_mem _ (List.mem_append_left _ (List.mem_append_left _ (List.mem_append_left _ (List.mem_of_getElem? (i := 6) rfl))))), List.forall_mem_cons.mpr ⟨(List.mem_cons_of_mem _ (List.mem_append_left _ (List.mem_append_left _ (List.mem_append_right _ (List.mem_append_left _ (List.mem_of_getElem? (i := 2) rfl)))))), fun _ h => absurd h List.not_mem_nil⟩⟩⟩⟩⟩⟩⟩⟩, fun _ h => (List.mem_cons_of_mem _ (List.mem_append_right _ h))⟩⟩) gw_wsX3_gather
set_option maxRecDepth 20000 in
theorem gX5_leadOn_X3_gather : GoodIn wsX5_leadOn (wsV RX5 51 RX3 yX3_gather wsX3_gather) := goodIn_app (goodIn_of _ (by decide +kernel)) ggX5_leadOn_X3_gather
set_option maxRecDepth 20000 in
theorem ggX5_leadOn_X3_weighGathered : GoodIn wsX5_leadOn wsX3_weighGathered := goodIn_sub (List.forall_mem_cons.mpr ⟨(List.mem_cons_of_mem _ (List.mem_append_left _ (List.mem_append_left _ (List.mem_append_right _ (List.mem_append_left _ (List.mem_of_getElem? (i := 6) rfl)))))), List.forall_mem_append.mpr ⟨List.forall_mem_append.mpr ⟨List.forall_mem_cons.mpr ⟨(List.mem_cons_of_mem _ (List.mem_append_left _ (List.mem_append_left _ (List.mem_append_left _ (List.mem_of_getElem? (i := 8) rfl))))), List.forall_mem_cons.mpr ⟨(List.mem_cons_of_mem _ (List.mem_append_left _ (List.mem_append_left _ (List.mem_append_left _ (List.mem_of_getElem? (i := 22) rfl))))), List.forall_mem_cons.mpr ⟨(List.mem_cons_of_mem _ (List.mem_append_left _ (List.mem_append_left _ (List.mem_append_right _ (List.mem_append_left _ (List.mem_of_getElem? (i := 7) rfl)))))), List.forall_mem_cons.mpr ⟨(List.mem_cons_of_mem _ (List.mem_append_left _ (List.mem_append_left _ (List.mem_append_left _ (List.mem_of_getElem? (i := 23) rfl))))), List.forall_mem_cons.mpr ⟨(List.mem_cons_of_mem _ (List.mem_append_left _ (List.mem_append_left _ (List.mem_append_right _ (List.mem_append_left _ (List.mem_of_getElem? (i := 8) rfl)))))), List.forall_mem_cons.mpr ⟨(List.mem_cons_of_mem _ (List.mem_append_left _ (List.mem_append_left _ (List.mem_append_right _ (List.mem_append_left _ (List.mem_of_getElem? (i := 9) rfl)))))), List.forall_mem_cons.mpr ⟨(List.mem_cons_of_mem _ (List.mem_append_left _ (List.mem_append_left _ (List.mem_append_right _ (List.mem_append_left _ (List.mem_of_getElem? (i := 10) rfl)))))), List.forall_mem_cons.mpr ⟨(List.mem_cons_of_mem _ (List.mem_append_left _ (List.mem_append_left _ (List.mem_append_right _ (List.mem_append_left _ (List.mem_of_getElem? (i := 11) rfl)))))), List.forall_mem_cons.mpr ⟨(List.mem_cons_of_mem _ (List.mem_append_left _ (List.mem_append_left _ (List.mem_append_right _ (List.mem_append_left _ (List.mem_of_getElem? (i := 0) rfl)))))), List.forall_mem_cons.mpr ⟨(List.mem_cons_of_mem _ (List.mem_append_left _ (List.mem_append_left _ (List.mem_append_right _ (List.mem_append_left _ (List.mem_of_getElem? (i := 1) rfl)))))), List.forall_mem_cons.mpr ⟨(List.mem_cons_of_mem _ (List.mem_append_left _ (List.mem_append_left _ (List.mem_append_left _ (List.mem_of_getElem? (i := 6) rfl))))), List.forall_mem_cons.mpr ⟨(List.mem_cons_of_mem _ (List.mem_append_left _ (List.mem_append_left _ (List.mem_append_right _ (List.mem_append_left _ (List.mem_of_getElem? (i := 2) rfl)))))), List.forall_mem_cons.mpr ⟨(List.mem_cons_of_mem _ (List.mem_append_left _ (List.mem_append_left _ (List.mem_append_right _ (List.mem_append_left _ (List.mem_of_getElem? (i := 12) rfl)))))), List.forall_mem_cons.mpr ⟨(List.mem_cons_of_mem _ (List.mem_append_left _ (List.mem_append_left _ (List.mem_append_right _ (List.mem_append_left _ (List.mem_of_getElem? (i := 13) rfl)))))), List.forall_mem_cons.mpr ⟨(List.mem_cons_of_mem _ (List.mem_append_left _ (List.mem_append_left _ (List.mem_append_right _ (List.mem_append_left _ (List.mem_of_getElem? (i := 14) rfl)))))), List.forall_mem_cons.mpr ⟨(List.mem_cons_of_mem _ (List.mem_append_left _ (List.mem_append_left _ (List.mem_append_right _ (List.mem_append_left _ (List.mem_of_getElem? (i := 15) rfl)))))), List.forall_mem_cons.mpr ⟨(List.mem_cons_of_mem _ (List.mem_append_left _ (List.mem_append_left _ (List.mem_append_right _ (List.mem_append_left _ (List.mem_of_getElem? (i := 16) rfl)))))), List.forall_mem_cons.mpr ⟨(List.mem_cons_of_mem _ (List.mem_append_left _ (List.mem_append_left _ (List.mem_append_right _ (List.mem_append_left _ (List.mem_of_getElem? (i := 17) rfl)))))), List.forall_mem_cons.mpr ⟨(List.mem_cons_of_mem _ (List.mem_append_left _ (List.mem_append_left _ (List.mem_append_right _ (List.mem_append_left _ (List.mem_of_getElem? (i := 18) rfl)))))), List.forall_mem_cons.mpr ⟨(List.mem_cons_of_mem _ (List.mem_append_left _ (List.mem_append_left _ (List.mem_append_right _ (List.mem_append_left _ (List.mem_of_getElem? (i := 19) rfl)))))), List.forall_mem_cons.mpr ⟨(List.mem_cons_of_mem _ (List.mem_append_left _ (List.mem_append_left _ (List.mem_append_left _ (List.mem_of_getElem? (i := 14) rfl))))), List.forall_mem_cons.mpr ⟨(List.mem_cons_of_mem _ (List.mem_append_left _ (List.mem_append_left _ (List.mem_append_left _ (List.mem_of_getElem? (i := 15) rfl))))), List.forall_mem_cons.mpr ⟨(List.mem_cons_of_mem _ (List.mem_append_left _ (List.mem_append_left _ (List.mem_append_left _ (List.mem_of_getElem? (i := 16) rfl))))), List.forall_mem_cons.mpr ⟨(List.mem_cons_of_mem _ (List.mem_append_left _ (List.mem_append_left _ (List.mem_append_left _ (List.mem_of_getElem? (i := 17) rfl))))), fun _ h => absurd h List.not_mem_nil⟩⟩⟩⟩⟩⟩⟩⟩⟩⟩⟩⟩⟩⟩⟩⟩⟩⟩⟩⟩⟩⟩⟩⟩, List.forall_mem_cons.mpr ⟨(List.mem_cons_of_mem _ (List.mem_append_left _ (List.mem_append_left _ (List.mem_append_right _ (List.mem_append_left _ (List.mem_of_getElem? (i := 20) rfl)))))), List.forall_mem_cons.mpr ⟨(List.mem_cons_of_mem _ (List.mem_append_left _ (List.mem_append_left _ (List.mem_append_right _ (List.mem_append_left _ (List.mem_of_getElem? (i := 21) rfl)))))), List.forall_mem_cons.mpr ⟨(List.mem_cons_of_mem _ (List.mem_append_left _ (List.mem_append_left _ (List.mem_append_right _ (List.mem_append_left _ (List.mem_of_getElem? (i := 22) rfl)))))), List.forall_mem_cons.mpr ⟨(List.mem_cons_of_mem _ (List.mem_append_left _ (List.mem_append_left _ (List.mem_append_right _ (List.mem_append_left _ (List.mem_of_getElem? (i := 23) rfl)))))), List.forall_mem_cons.mpr ⟨(List.mem_cons_of_mem _ (List.mem_append_left _ (List.mem_append_left _ (List.mem_append_left _ (List.mem_of_getElem? (i := 13) rfl))))), fun _ h => absurd h List.not_mem_nil⟩⟩⟩⟩⟩⟩, fun _ h => (List.mem_cons_of_mem _ (List.mem_append_right _ h))⟩⟩) gw_wsX3_weighGathered
set_option maxRecDepth 20000 in
theorem gX5_leadOn_X3_weighGathered : GoodIn wsX5_leadOn (wsV RX5 54 RX3 yX3_weighGathered wsX3_weighGathered) := goodIn_app (goodIn_of _ (by decide +kernel)) ggX5_leadOn_X3_weighGathered
set_option maxRecDepth 20000 in
theorem gw_wsX3_codeBehind : wsX3_codeBehind.all goodWord = true := by decide +kernel
set_option maxRecDepth 20000 in
theorem ggX5_leadOn_X3_codeBehind : GoodIn wsX5_leadOn wsX3_codeBehind := goodIn_sub (List.forall_mem_cons.mpr ⟨(List.mem_cons_of_mem _ (List.mem_append_left _ (List.mem_append_left _ (List.mem_append_right _ (List.mem_append_right _ (List.mem_of_getElem? (i := 3) rfl)))))), List.forall_mem_append.mpr ⟨List.forall_mem_cons.mpr ⟨(List.mem_cons_of_mem _ (List.mem_append_left _ (List.mem_append_left _ (List.mem_append_right _ (List.mem_append_left _ (List.mem_of_getElem? (i := 11) rfl)))))), List.forall_mem_cons.mpr ⟨(List.mem_cons_of_mem _ (List.mem_append_left _ (List.mem_append_left _ (List.mem_append_left _ (List.mem_of_getElem? (i := 8) rfl))))), List.forall_mem_cons.mpr ⟨(List.mem_cons_of_mem _ (List.mem_append_left _ (List.mem_append_left _ (List.mem_append_left _ (List.mem_of_getElem? (i := 14) rfl))))), List.forall_mem_cons.mpr ⟨(List.mem_cons_of_mem _ (List.mem_append_left _ (List.mem_append_left _ (List.mem_append_left _ (List.mem_of_getElem? (i := 15) rfl))))), List.forall_mem_cons.mpr ⟨(List.mem_cons_of_mem _ (List.mem_append_left _ (List.mem_append_left _ (List.mem_append_left _ (List.mem_of_getElem? (i := 16) rfl))))), List.forall_mem_cons.mpr ⟨(List.mem_cons_of_mem _ (List.mem_append_left _ (List.mem_append_left _ (List.mem_append_left _ (List.mem_of_getElem? (i := 6) rfl))))), List.forall_mem_cons.mpr ⟨(List.mem_cons_of_mem _ (List.mem_append_left _ (List.mem_append_left _ (List.mem_append_left _ (List.mem_of_getElem? (i := 17) rfl))))), fun _ h => absurd h List.not_mem_nil⟩⟩⟩⟩⟩⟩⟩, fun _ h => (List.mem_cons_of_mem _ (List.mem_append_right _ h))⟩⟩) gw_wsX3_codeBehind
set_option maxRecDepth 20000 in
theorem gX5_leadOn_X3_codeBehind : GoodIn wsX5_leadOn (wsV RX5 61 RX3 yX3_codeBehind wsX3_codeBehind) := goodIn_app (goodIn_of _ (by decide +kernel)) ggX5_leadOn_X3_codeBehind
set_option maxRecDepth 20000 in
theorem ggX5_leadOn_X5_find : GoodIn wsX5_leadOn wsX5_find := goodIn_sub (List.forall_mem_cons.mpr ⟨(List.mem_cons_of_mem _ (List.mem_append_left _ (List.mem_append_left _ (List.mem_append_right _ (List.mem_append_right _ (List.mem_of_getElem? (i := 8) rfl)))))), List.forall_mem_append.mpr ⟨List.forall_mem_cons.mpr ⟨(List.mem_cons_of_mem _ (List.mem_append_left _ (List.mem_append_left _ (List.mem_append_right _ (List.mem_append_right _ (List.mem_of_getElem? (i := 9) rfl)))))), List.forall_mem_cons.mpr ⟨(List.mem_cons_of_mem _ (List.mem_append_left _ (List.mem_append_left _ (List.mem_append_right _ (List.mem_append_right _ (List.mem_of_getElem? (i := 10) rfl)))))), List.forall_mem_cons.mpr ⟨(List.mem_cons_of_mem _ (List.mem_append_left _ (List.mem_append_left _ (List.mem_append_right _ (List.mem_append_right _ (List.mem_of_getElem? (i := 11) rfl)))))), fun _ h => absurd h List.not_mem_nil⟩⟩⟩, fun _ h => (List.mem_cons_of_mem _ (List.mem_append_left _ (List.mem_append_right _ h)))⟩⟩) gw_wsX5_find
set_option maxRecDepth 20000 in
theorem gX5_leadOn_X5_find : GoodIn wsX5_leadOn (wsV RX5 31 RX5 yX5_find wsX5_find) := goodIn_app (goodIn_of _ (by decide +kernel)) ggX5_leadOn_X5_find
theorem dX5_leadOn_0 : decode cX5_leadOn 0 = .ok (.aload_n 1, 1) := by decide +kernel
theorem dX5_leadOn_1 : decode cX5_leadOn 1 = .ok (.iload_n 2, 1) := by decide +kernel
theorem dX5_leadOn_2 : decode cX5_leadOn 2 = .ok (.invokevirtual 48, 3) := by decide +kernel
theorem dX5_leadOn_5 : decode cX5_leadOn 5 = .ok (.aload_n 1, 1) := by decide +kernel
theorem dX5_leadOn_6 : decode cX5_leadOn 6 = .ok (.invokevirtual 51, 3) := by decide +kernel
theorem dX5_leadOn_9 : decode cX5_leadOn 9 = .ok (.iload_n 3, 1) := by decide +kernel
theorem dX5_leadOn_10 : decode cX5_leadOn 10 = .ok (.ineg, 1) := by decide +kernel
theorem dX5_leadOn_11 : decode cX5_leadOn 11 = .ok (.istore 4, 2) := by decide +kernel
theorem dX5_leadOn_13 : decode cX5_leadOn 13 = .ok (.iload 4, 2) := by decide +kernel
theorem dX5_leadOn_15 : decode cX5_leadOn 15 = .ok (.iload_n 3, 1) := by decide +kernel
theorem dX5_leadOn_16 : decode cX5_leadOn 16 = .ok (.if_icmp .gt 57, 3) := by decide +kernel
theorem dX5_leadOn_19 : decode cX5_leadOn 19 = .ok (.aload_n 1, 1) := by decide +kernel
theorem dX5_leadOn_20 : decode cX5_leadOn 20 = .ok (.iload 4, 2) := by decide +kernel
theorem dX5_leadOn_22 : decode cX5_leadOn 22 = .ok (.invokevirtual 54, 3) := by decide +kernel
theorem dX5_leadOn_25 : decode cX5_leadOn 25 = .ok (.aload_n 0, 1) := by decide +kernel
theorem dX5_leadOn_26 : decode cX5_leadOn 26 = .ok (.aload_n 0, 1) := by decide +kernel
theorem dX5_leadOn_27 : decode cX5_leadOn 27 = .ok (.getfield 23, 3) := by decide +kernel
theorem dX5_leadOn_30 : decode cX5_leadOn 30 = .ok (.ifCond .ne 10, 3) := by decide +kernel
theorem dX5_leadOn_33 : decode cX5_leadOn 33 = .ok (.aload_n 1, 1) := by decide +kernel
theorem dX5_leadOn_34 : decode cX5_leadOn 34 = .ok (.getfield 57, 3) := by decide +kernel
theorem dX5_leadOn_37 : decode cX5_leadOn 37 = .ok (.ifCond .eq 7, 3) := by decide +kernel
theorem dX5_leadOn_40 : decode cX5_leadOn 40 = .ok (.iconst 1, 1) := by decide +kernel
theorem dX5_leadOn_41 : decode cX5_leadOn 41 = .ok (.goto 4, 3) := by decide +kernel
theorem dX5_leadOn_44 : decode cX5_leadOn 44 = .ok (.iconst 0, 1) := by decide +kernel
theorem dX5_leadOn_45 : decode cX5_leadOn 45 = .ok (.putfield 23, 3) := by decide +kernel
theorem dX5_leadOn_48 : decode cX5_leadOn 48 = .ok (.aload_n 1, 1) := by decide +kernel
theorem dX5_leadOn_49 : decode cX5_leadOn 49 = .ok (.getfield 58, 3) := by decide +kernel
theorem dX5_leadOn_52 : decode cX5_leadOn 52 = .ok (.sipush (-1005), 3) := by decide +kernel
theorem dX5_leadOn_55 : decode cX5_leadOn 55 = .ok (.if_icmp .eq 12, 3) := by decide +kernel
theorem dX5_leadOn_58 : decode cX5_leadOn 58 = .ok (.aload_n 0, 1) := by decide +kernel
theorem dX5_leadOn_59 : decode cX5_leadOn 59 = .ok (.aload_n 1, 1) := by decide +kernel
theorem dX5_leadOn_60 : decode cX5_leadOn 60 = .ok (.iload_n 2, 1) := by decide +kernel
theorem dX5_leadOn_61 : decode cX5_leadOn 61 = .ok (.invokevirtual 61, 3) := by decide +kernel
theorem dX5_leadOn_64 : decode cX5_leadOn 64 = .ok (.invokevirtual 31, 3) := by decide +kernel
theorem dX5_leadOn_67 : decode cX5_leadOn 67 = .ok (.iinc 4 1, 3) := by decide +kernel
theorem dX5_leadOn_70 : decode cX5_leadOn 70 = .ok (.goto (-57), 3) := by decide +kernel
theorem dX5_leadOn_73 : decode cX5_leadOn 73 = .ok (.return_, 1) := by decide +kernel
theorem dX5_find_0 : decode cX5_find 0 = .ok (.iload_n 1, 1) := by decide +kernel
theorem dX5_find_1 : decode cX5_find 1 = .ok (.ifCond .lt 56, 3) := by decide +kernel
theorem dX5_find_4 : decode cX5_find 4 = .ok (.iload_n 1, 1) := by decide +kernel
theorem dX5_find_5 : decode cX5_find 5 = .ok (.sipush 1024, 3) := by decide +kernel
theorem dX5_find_8 : decode cX5_find 8 = .ok (.if_icmp .ge 49, 3) := by decide +kernel
theorem dX5_find_11 : decode cX5_find 11 = .ok (.aload_n 0, 1) := by decide +kernel
theorem dX5_find_12 : decode cX5_find 12 = .ok (.getfield 15, 3) := by decide +kernel
theorem dX5_find_15 : decode cX5_find 15 = .ok (.iload_n 1, 1) := by decide +kernel
theorem dX5_find_16 : decode cX5_find 16 = .ok (.baload, 1) := by decide +kernel
theorem dX5_find_17 : decode cX5_find 17 = .ok (.ifCond .ne 40, 3) := by decide +kernel
theorem dX5_find_20 : decode cX5_find 20 = .ok (.aload_n 0, 1) := by decide +kernel
theorem dX5_find_21 : decode cX5_find 21 = .ok (.getfield 19, 3) := by decide +kernel
theorem dX5_find_24 : decode cX5_find 24 = .ok (.sipush 1024, 3) := by decide +kernel
theorem dX5_find_27 : decode cX5_find 27 = .ok (.if_icmp .ge 30, 3) := by decide +kernel
theorem dX5_find_30 : decode cX5_find 30 = .ok (.aload_n 0, 1) := by decide +kernel
theorem dX5_find_31 : decode cX5_find 31 = .ok (.getfield 15, 3) := by decide +kernel
theorem dX5_find_34 : decode cX5_find 34 = .ok (.iload_n 1, 1) := by decide +kernel
theorem dX5_find_35 : decode cX5_find 35 = .ok (.iconst 1, 1) := by decide +kernel
theorem dX5_find_36 : decode cX5_find 36 = .ok (.bastore, 1) := by decide +kernel
theorem dX5_find_37 : decode cX5_find 37 = .ok (.aload_n 0, 1) := by decide +kernel
theorem dX5_find_38 : decode cX5_find 38 = .ok (.getfield 9, 3) := by decide +kernel
theorem dX5_find_41 : decode cX5_find 41 = .ok (.aload_n 0, 1) := by decide +kernel
theorem dX5_find_42 : decode cX5_find 42 = .ok (.getfield 19, 3) := by decide +kernel
theorem dX5_find_45 : decode cX5_find 45 = .ok (.iload_n 1, 1) := by decide +kernel
theorem dX5_find_46 : decode cX5_find 46 = .ok (.iastore, 1) := by decide +kernel
theorem dX5_find_47 : decode cX5_find 47 = .ok (.aload_n 0, 1) := by decide +kernel
theorem dX5_find_48 : decode cX5_find 48 = .ok (.dup, 1) := by decide +kernel
theorem dX5_find_49 : decode cX5_find 49 = .ok (.getfield 19, 3) := by decide +kernel
theorem dX5_find_52 : decode cX5_find 52 = .ok (.iconst 1, 1) := by decide +kernel
theorem dX5_find_53 : decode cX5_find 53 = .ok (.iadd, 1) := by decide +kernel
theorem dX5_find_54 : decode cX5_find 54 = .ok (.putfield 19, 3) := by decide +kernel
theorem dX5_find_57 : decode cX5_find 57 = .ok (.return_, 1) := by decide +kernel
theorem dX6_init_0 : decode cX6_init 0 = .ok (.aload_n 0, 1) := by decide +kernel
theorem dX6_init_1 : decode cX6_init 1 = .ok (.invokespecial 3, 3) := by decide +kernel
theorem dX6_init_4 : decode cX6_init 4 = .ok (.aload_n 0, 1) := by decide +kernel
theorem dX6_init_5 : decode cX6_init 5 = .ok (.bipush 80, 2) := by decide +kernel
theorem dX6_init_7 : decode cX6_init 7 = .ok (.newarray .byte, 2) := by decide +kernel
theorem dX6_init_9 : decode cX6_init 9 = .ok (.putfield 9, 3) := by decide +kernel
theorem dX6_init_12 : decode cX6_init 12 = .ok (.aload_n 0, 1) := by decide +kernel
theorem dX6_init_13 : decode cX6_init 13 = .ok (.iconst 0, 1) := by decide +kernel
theorem dX6_init_14 : decode cX6_init 14 = .ok (.putfield 15, 3) := by decide +kernel
theorem dX6_init_17 : decode cX6_init 17 = .ok (.aload_n 0, 1) := by decide +kernel
theorem dX6_init_18 : decode cX6_init 18 = .ok (.bipush 80, 2) := by decide +kernel
theorem dX6_init_20 : decode cX6_init 20 = .ok (.newarray .int, 2) := by decide +kernel
theorem dX6_init_22 : decode cX6_init 22 = .ok (.putfield 19, 3) := by decide +kernel
theorem dX6_init_25 : decode cX6_init 25 = .ok (.aload_n 0, 1) := by decide +kernel
theorem dX6_init_26 : decode cX6_init 26 = .ok (.bipush 80, 2) := by decide +kernel
theorem dX6_init_28 : decode cX6_init 28 = .ok (.newarray .int, 2) := by decide +kernel
theorem dX6_init_30 : decode cX6_init 30 = .ok (.putfield 23, 3) := by decide +kernel
theorem dX6_init_33 : decode cX6_init 33 = .ok (.aload_n 0, 1) := by decide +kernel
theorem dX6_init_34 : decode cX6_init 34 = .ok (.bipush 80, 2) := by decide +kernel
theorem dX6_init_36 : decode cX6_init 36 = .ok (.newarray .int, 2) := by decide +kernel
theorem dX6_init_38 : decode cX6_init 38 = .ok (.putfield 26, 3) := by decide +kernel
theorem dX6_init_41 : decode cX6_init 41 = .ok (.aload_n 0, 1) := by decide +kernel
theorem dX6_init_42 : decode cX6_init 42 = .ok (.iconst 0, 1) := by decide +kernel
theorem dX6_init_43 : decode cX6_init 43 = .ok (.putfield 29, 3) := by decide +kernel
theorem dX6_init_46 : decode cX6_init 46 = .ok (.aload_n 0, 1) := by decide +kernel
theorem dX6_init_47 : decode cX6_init 47 = .ok (.iconst 0, 1) := by decide +kernel
theorem dX6_init_48 : decode cX6_init 48 = .ok (.putfield 32, 3) := by decide +kernel
theorem dX6_init_51 : decode cX6_init 51 = .ok (.aload_n 0, 1) := by decide +kernel
theorem dX6_init_52 : decode cX6_init 52 = .ok (.iconst 0, 1) := by decide +kernel
theorem dX6_init_53 : decode cX6_init 53 = .ok (.putfield 35, 3) := by decide +kernel
theorem dX6_init_56 : decode cX6_init 56 = .ok (.aload_n 0, 1) := by decide +kernel
theorem dX6_init_57 : decode cX6_init 57 = .ok (.iconst 0, 1) := by decide +kernel
theorem dX6_init_58 : decode cX6_init 58 = .ok (.putfield 38, 3) := by decide +kernel
theorem dX6_init_61 : decode cX6_init 61 = .ok (.aload_n 0, 1) := by decide +kernel
theorem dX6_init_62 : decode cX6_init 62 = .ok (.iconst 0, 1) := by decide +kernel
theorem dX6_init_63 : decode cX6_init 63 = .ok (.putfield 42, 3) := by decide +kernel
theorem dX6_init_66 : decode cX6_init 66 = .ok (.return_, 1) := by decide +kernel
set_option maxRecDepth 20000 in
theorem gw_wsX6_goesOnWith : wsX6_goesOnWith.all goodWord = true := by decide +kernel
set_option maxRecDepth 20000 in
theorem ggX6_findFault_X6_goesOnWith : GoodIn wsX6_findFault wsX6_goesOnWith := goodIn_sub (List.forall_mem_cons.mpr ⟨(List.mem_cons_of_mem _ (List.mem_append_left _ (List.mem_append_left _ (List.mem_of_getElem? (i := 9) rfl)))), List.forall_mem_append.mpr ⟨List.forall_mem_append.mpr ⟨List.forall_mem_cons.mpr ⟨(List.mem_cons_of_mem _ (List.mem_append_left _ (List.mem_append_left _ (List.mem_of_getElem? (i := 1) rfl)))), List.forall_mem_cons.mpr ⟨(List.mem_cons_of_mem _ (List.mem_append_left _ (List.mem_append_left _ (List.mem_of_getElem? (i := 10) rfl)))), List.forall_mem_cons.mpr ⟨(List.mem_cons_of_mem _ (List.mem_append_left _ (List.mem_append_left _ (List.mem_of_getElem? (i := 11) rfl)))), List.forall_mem_cons.mpr ⟨(List.mem_cons_of_mem _ (List.mem_append_left _ (List.mem_append_left _ (List.mem_of_getElem? (i := 12) rfl)))), List.forall_mem_cons.mpr ⟨(List.mem_cons_of_mem _ (List.mem_append_left _ (List.mem_append_left _ (List.mem_of_getElem? (i := 8) rfl)))), List.forall_mem_cons.mpr ⟨(List.mem_cons_of_mem _ (List.mem_append_left _ (List.mem_append_left _ (List.mem_of_getElem? (i := 13) rfl)))), List.forall_mem_cons.mpr ⟨(List.mem_cons_of_mem _ (List.mem_append_left _ (List.mem_append_left _ (List.mem_of_getElem? (i := 0) rfl)))), List.forall_mem_cons.mpr ⟨(List.mem_cons_of_mem _ (List.mem_append_left _ (List.mem_append_left _ (List.mem_of_getElem? (i := 14) rfl)))), List.forall_mem_cons.mpr ⟨(List.mem_cons_of_mem _ (List.mem_append_left _ (List.mem_append_left _ (List.mem_of_getElem? (i := 15) rfl)))), List.forall_mem_cons.mpr ⟨(List.mem_cons_of_mem _ (List.mem_append_left _ (List.mem_append_left _ (List.mem_of_getElem? (i := 16) rfl)))), List.forall_mem_cons.mpr ⟨(List.mem_cons_of_mem _ (List.mem_append_left _ (List.mem_append_left _ (List.mem_of_getElem? (i := 4) rfl)))), List.forall_mem_cons.mpr ⟨(List.mem_cons_of_mem _ (List.mem_append_left _ (List.mem_append_left _ (List.mem_of_getElem? (i := 17) rfl)))), List.forall_mem_cons.mpr ⟨(List.mem_cons_of_mem _ (List.mem_append_left _ (List.mem_append_left _ (List.mem_of_getElem? (i := 18) rfl)))), List.forall_mem_cons.mpr ⟨(List.mem_cons_of_mem _ (List.mem_append_left _ (List.mem_append_left _ (List.mem_of_getElem? (i := 19) rfl)))), List.forall_mem_cons.mpr ⟨(List.mem_cons_of_mem _ (List.mem_append_left _ (List.mem_append_left _ (List.mem_of_getElem? (i := 20) rfl)))), List.forall_mem_cons.mpr ⟨(List.mem_cons_of_mem _ (List.mem_append_left _ (List.mem_append_left _ (List.mem_of_getElem? (i := 21) rfl)))), List.forall_mem_cons.mpr ⟨(List.mem_cons_of_mem _ (List.mem_append_left _ (List.mem_append_left _ (List.mem_of_getElem? (i := 22) rfl)))), List.forall_mem_cons.mpr ⟨(List.mem_cons_of_mem _ (List.mem_append_left _ (List.mem_append_left _ (List.mem_of_getElem? (i := 23) rfl)))), List.forall_mem_cons.mpr ⟨(List.mem_cons_of_mem _ (List.mem_append_left _ (List.mem_append_right _ (List.mem_append_left _ (List.mem_of_getElem? (i := 0) rfl))))), List.forall_mem_cons.mpr ⟨(List.mem_cons_of_mem _ (List.mem_append_left _ (List.mem_append_right _ (List.mem_append_left _ (List.mem_of_getElem? (i := 1) rfl))))), List.forall_mem_cons.mpr ⟨(List.mem_cons_of_mem _ (List.mem_append_left _ (List.mem_append_right _ (List.mem_append_left _ (List.mem_of_getElem? (i := 2) rfl))))), List.forall_mem_cons.mpr ⟨(List.mem_cons_of_mem _ (List.mem_append_left _ (List.mem_append_right _ (List.mem_append_left _ (List.mem_of_getElem? (i := 3) rfl))))), List.forall_mem_cons.mpr ⟨(List.mem_cons_of_mem _ (List.mem_append_left _ (List.mem_append_right _ (List.mem_append_left _ (List.mem_of_getElem? (i := 4) rfl))))), List.forall_mem_cons.mpr ⟨(List.mem_cons_of_mem _ (List.mem_append_left _ (List.mem_append_right _ (List.mem_append_left _ (List.mem_of_getElem? (i := 5) rfl))))), fun _ h => absurd h List.not_mem_nil⟩⟩⟩⟩⟩⟩⟩⟩⟩⟩⟩⟩⟩⟩⟩⟩⟩⟩⟩⟩⟩⟩⟩⟩, List.forall_mem_append.mpr ⟨List.forall_mem_cons.mpr ⟨(List.mem_cons_of_mem _ (List.mem_append_left _ (List.mem_append_right _ (List.mem_append_left _ (List.mem_of_getElem? (i := 6) rfl))))), List.forall_mem_cons.mpr ⟨(List.mem_cons_of_mem _ (List.mem_append_left _ (List.mem_append_right _ (List.mem_append_left _ (List.mem_of_getElem? (i := 7) rfl))))), List.forall_mem_cons.mpr ⟨(List.mem_cons_of_mem _ (List.mem_append_left _ (List.mem_append_right _ (List.mem_append_left _ (List.mem_of_getElem? (i := 8) rfl))))), List.forall_mem_cons.mpr ⟨(List.mem_cons_of_mem _ (List.mem_append_left _ (List.mem_append_right _ (List.mem_append_left _ (List.mem_of_getElem? (i := 9) rfl))))), List.forall_mem_cons.mpr ⟨(List.mem_cons_of_mem _ (List.mem_append_left _ (List.mem_append_right _ (List.mem_append_left _ (List.mem_of_getElem? (i := 10) rfl))))), List.forall_mem_cons.mpr ⟨(List.mem_cons_of_mem _ (List.mem_append_left _ (List.mem_append_right _ (List.mem_append_left _ (List.mem_of_getElem? (i := 11) rfl))))), List.forall_mem_cons.mpr ⟨(List.mem_cons_of_mem _ (List.mem_append_left _ (List.mem_append_right _ (List.mem_append_left _ (List.mem_of_getElem? (i := 12) rfl))))), List.forall_mem_cons.mpr ⟨(List.mem_cons_of_mem _ (List.mem_append_left _ (List.mem_append_right _ (List.mem_append_left _ (List.mem_of_getElem? (i := 13) rfl))))), List.forall_mem_cons.mpr ⟨(List.mem_cons_of_mem _ (List.mem_append_left _ (List.mem_append_right _ (List.mem_append_left _ (List.mem_of_getElem? (i := 14) rfl))))), List.forall_mem_cons.mpr ⟨(List.mem_cons_of_mem _ (List.mem_append_left _ (List.mem_append_right _ (List.mem_append_left _ (List.mem_of_getElem? (i := 15) rfl))))), List.forall_mem_cons.mpr ⟨(List.mem_cons_of_mem _ (List.mem_append_left _ (List.mem_append_right _ (List.mem_append_left _ (List.mem_of_getElem? (i := 16) rfl))))), List.forall_mem_cons.mpr ⟨(List.mem_cons_of_mem _ (List.mem_append_left _ (List.mem_append_right _ (List.mem_append_left _ (List.mem_of_getElem? (i := 17) rfl))))), List.forall_mem_cons.mpr ⟨(List.mem_cons_of_mem _ (List.mem_append_left _ (List.mem_append_right _ (List.mem_append_left _ (List.mem_of_getElem? (i := 18) rfl))))), List.forall_mem_cons.mpr ⟨(List.mem_cons_of_mem _ (List.mem_append_left _ (List.mem_append_right _ (List.mem_append_left _ (List.mem_of_getElem? (i := 19) rfl))))), List.forall_mem_cons.mpr ⟨(List.mem_cons_of_mem _ (List.mem_append_left _ (List.mem_append_right _ (List.mem_append_left _ (List.mem_of_getElem? (i := 20) rfl))))), List.forall_mem_cons.mpr ⟨(List.mem_cons_of_mem _ (List.mem_append_left _ (List.mem_append_right _ (List.mem_append_left _ (List.mem_of_getElem? (i := 21) rfl))))), List.forall_mem_cons.mpr ⟨(List.mem_cons_of_mem _ (List.mem_append_left _ (List.mem_append_right _ (List.mem_append_left _ (List.mem_of_getElem? (i := 22) rfl))))), List.forall_mem_cons.mpr ⟨(List.mem_cons_of_mem _ (List.mem_append_left _ (List.mem_append_right _ (List.mem_append_left _ (List.mem_of_getElem? (i := 23) rfl))))), List.forall_mem_cons.mpr ⟨(List.mem_cons_of_mem _ (List.mem_append_left _ (List.mem_append_right _ (List.mem_append_right _ (List.mem_append_left _ (List.mem_of_getElem? (i := 0) rfl)))))), List.forall_mem_cons.mpr ⟨(List.mem_cons_of_mem _ (List.mem_append_left _ (List.mem_append_right _ (List.mem_append_right _ (List.mem_append_left _ (List.mem_of_getElem? (i := 1) rfl)))))), List.forall_mem_cons.mpr ⟨(List.mem_cons_of_mem _ (List.mem_append_left _ (List.mem_append_right _ (List.mem_append_right _ (List.mem_append_left _ (List.mem_of_getElem? (i := 2) rfl)))))), List.forall_mem_cons.mpr ⟨(List.mem_cons_of_mem _ (List.mem_append_left _ (List.mem_append_right _ (List.mem_append_right _ (List.mem_append_left _ (List.mem_of_getElem? (i := 3) rfl)))))), List.forall_mem_cons.mpr ⟨(List.mem_cons_of_mem _ (List.mem_append_left _ (List.mem_append_right _ (List.mem_append_right _ (List.mem_append_left _ (List.mem_of_getElem? (i := 4) rfl)))))), List.forall_mem_cons.mpr ⟨(List.mem_cons_of_mem _ (List.mem_append_left _ (List.mem_append_right _ (List.mem_append_right _ (List.mem_append_left _ (List.mem_of_getElem? (i := 5) rfl)))))), fun _ h => absurd h List.not_mem_nil⟩⟩⟩⟩⟩⟩⟩⟩⟩⟩⟩⟩⟩⟩⟩⟩⟩⟩⟩⟩⟩⟩⟩⟩, List.forall_mem_append.mpr ⟨List.forall_mem_cons.mpr ⟨(List.mem_cons_of_mem _ (List.mem_append_left _ (List.mem_append_right _ (List.mem_append_right _ (List.mem_append_left _ (List.mem_of_getElem? (i := 6) rfl)))))), List.forall_mem_cons.mpr ⟨(List.mem_cons_of_mem _ (List.mem_append_left _ (List.mem_append_right _ (List.mem_append_right _ (List.mem_append_left _ (List.mem_of_getElem? (i := 7) rfl)))))), List.forall_mem_cons.mpr ⟨(List.mem_cons_of_mem _ (List.mem_append_left _ (List.mem_append_right _ (List.mem_append_right _ (List.mem_append_left _ (List.mem_of_getElem? (i := 8) rfl)))))), List.forall_mem_cons.mpr ⟨(List.mem_cons_of_mem _ (List.mem_append_left _ (List.mem_append_right _ (List.mem_append_right _ (List.mem_append_left _ (List.mem_of_getElem? (i := 9) rfl)))))), List.forall_mem_cons.mpr ⟨(List.mem_cons_of_mem _ (List.mem_append_left _ (List.mem_append_right _ (List.mem_append_right _ (List.mem_append_left _ (List.mem_of_getElem? (i := 10) rfl)))))), List.forall_mem_cons.mpr ⟨(List.mem_cons_of_mem _ (List.mem_append_left _ (List.mem_append_right _ (List.mem_append_right _ (List.mem_append_left _ (List.mem_of_getElem? (i := 11) rfl)))))), List.forall_mem_cons.mpr ⟨(List.mem_cons_of_mem _ (List.mem_append_left _ (List.mem_append_right _ (List.mem_append_right _ (List.mem_append_left _ (List.mem_of_getElem? (i := 12) rfl)))))), List.forall_mem_cons.mpr ⟨(List.mem_cons_of_mem _ (List.mem_append_left _ (List.mem_append_right _ (List.mem_append_right _ (List.mem_append_left _ (List.mem_of_getElem? (i := 13) rfl)))))), List.forall_mem_cons.mpr ⟨(List.mem_cons_of_mem _ (List.mem_append_left _ (List.mem_append_right _ (List.mem_append_right _ (List.mem_append_left _ (List.mem_of_getElem? (i := 14) rfl)))))), List.forall_mem_cons.mpr ⟨(List.mem_cons_of_mem _ (List.mem_append_left _ (List.mem_append_right _ (List.mem_append_right _ (List.mem_append_left _ (List.mem_of_getElem? (i := 15) rfl)))))), List.forall_mem_cons.mpr ⟨(List.mem_cons_of_mem _ (List.mem_append_left _ (List.mem_append_right _ (List.mem_append_right _ (List.mem_append_left _ (List.mem_of_getElem? (i := 16) rfl)))))), List.forall_mem_cons.mpr ⟨(List.mem_cons_of_mem _ (List.mem_append_left _ (List.mem_append_right _ (List.mem_append_right _ (List.mem_append_left _ (List.mem_of_getElem? (i := 17) rfl)))))), List.forall_mem_cons.mpr ⟨(List.mem_cons_of_mem _ (List.mem_append_left _ (List.mem_append_right _ (List.mem_append_right _ (List.mem_append_left _ (List.mem_of_getElem? (i := 18) rfl)))))), List.forall_mem_cons.mpr ⟨(List.mem_cons_of_mem _ (List.mem_append_left _ (List.mem_append_right _ (List.mem_append_right _ (List.mem_append_left _ (List.mem_of_getElem? (i := 19) rfl)))))), List.forall_mem_cons.mpr ⟨(List.mem_cons_of_mem _ (List.mem_append_left _ (List.mem_append_right _ (List.mem_append_right _ (List.mem_append_left _ (List.mem_of_getElem? (i := 20) rfl)))))), List.forall_mem_cons.mpr ⟨(List.mem_cons_of_mem _ (List.mem_append_left _ (List.mem_append_right _ (List.mem_append_right _ (List.mem_append_left _ (List.mem_of_getElem? (i := 21) rfl)))))), List.forall_mem_cons.mpr ⟨(List.mem_cons_of_mem _ (List.mem_append_left _ (List.mem_append_right _ (List.mem_append_right _ (List.mem_append_left _ (List.mem_of_getElem? (i := 22) rfl)))))), List.forall_mem_cons.mpr ⟨(List.mem_cons_of_mem _ (List.mem_append_left _ (List.mem_append_right _ (List.mem_append_right _ (List.mem_append_left _ (List.mem_of_getElem? (i := 23) rfl)))))), List.forall_mem_cons.mpr ⟨(List.mem_cons_of_mem _ (List.mem_append_left _ (List.mem_append_right _ (List.mem_append_right _ (List.mem_append_right _ (List.mem_append_left _ (List.mem_of_getElem? (i := 0) rfl))))))), List.forall_mem_cons.mpr ⟨(List.mem_cons_of_mem _ (List.mem_append_left _ (List.mem_append_right _ (List.mem_append_right _ (List.mem_append_right _ (List.mem_append_left _ (List.mem_of_getElem? (i := 1) rfl))))))), List.forall_mem_cons.mpr ⟨(List.mem_cons_of_mem _ (List.mem_append_left _ (List.mem_append_right _ (List.mem_append_right _ (List.mem_append_right _ (List.mem_append_left _ (List.mem_of_getElem? (i := 2) rfl))))))), List.forall_mem_cons.mpr ⟨(List.mem_cons_of_mem _ (List.mem_append_left _ (List.mem_append_right _ (List.mem_append_right _ (List.mem_append_right _ (List.mem_append_left _ (List.mem_of_getElem? (i := 3) rfl))))))), List.forall_mem_cons.mpr ⟨(List.mem_cons_of_mem _ (List.mem_append_left _ (List.mem_append_right _ (List.mem_append_right _ (List.mem_append_right _ (List.mem_append_left _ (List.mem_of_getElem? (i := 4) rfl))))))), List.forall_mem_cons.mpr ⟨(List.mem_cons_of_mem _ (List.mem_append_left _ (List.mem_append_right _ (List.mem_append_right _ (List.mem_append_right _ (List.mem_append_left _ (List.mem_of_getElem? (i := 5) rfl))))))), fun _ h => absurd h List.not_mem_nil⟩⟩⟩⟩⟩⟩⟩⟩⟩⟩⟩⟩⟩⟩⟩⟩⟩⟩⟩⟩⟩⟩⟩⟩, List.forall_mem_append.mpr ⟨List.forall_mem_cons.mpr ⟨(List.mem_cons_of_mem _ (List.mem_append_left _ (List.mem_append_right _ (List.mem_append_right _ (List.mem_append_right _ (List.mem_append_left _ (List.mem_of_getElem? (i := 6) rfl))))))), List.forall_mem_cons.mpr ⟨(List.mem_cons_of_mem _ (List.mem_append_left _ (List.mem_append_right _ (List.mem_append_right _ (List.mem_append_right _ (List.mem_append_left _ (List.mem_of_getElem? (i := 7) rfl))))))), List.forall_mem_cons.mpr ⟨(List.mem_cons_of_mem _ (List.mem_append_left _ (List.mem_append_right _ (List.mem_append_right _ (List.mem_append_right _ (List.mem_append_left _ (List.mem_of_getElem? (i := 8) rfl))))))), List.forall_mem_cons.mpr ⟨(List.mem_cons_of_mem _ (List.mem_append_left _ (List.mem_append_right _ (List.mem_append_right _ (List.mem_append_right _ (List.mem_append_left _ (List.mem_of_getElem? (i := 9) rfl))))))), List.forall_mem_cons.mpr ⟨(List.mem_cons_of_mem _ (List.mem_append_left _ (List.mem_append_right _ (List.mem_append_right _ (List.mem_append_right _ (List.mem_append_left _ (List.mem_of_getElem? (i := 10) rfl))))))), List.forall_mem_cons.mpr ⟨(List.mem_cons_of_mem _ (List.mem_append_left _ (List.mem_append_right _ (List.mem_append_right _ (List.mem_append_right _ (List.mem_append_left _ (List.mem_of_getElem? (i := 11) rfl))))))), List.forall_mem_cons.mpr ⟨(List.mem_cons_of_mem _ (List.mem_append_left _ (List.mem_append_right _ (List.mem_append_right _ (List.mem_append_right _ (List.mem_append_left _ (List.mem_of_getElem? (i := 12) rfl))))))), List.forall_mem_cons.mpr ⟨(List.mem_cons_of_mem _ (List.mem_append_left _ (List.mem_append_right _ (List.mem_append_right _ (List.mem_append_right _ (List.mem_append_left _ (List.mem_of_getElem? (i := 13) rfl))))))), List.forall_mem_cons.mpr ⟨(List.mem_cons_of_mem _ (List.mem_append_left _ (List.mem_append_right _ (List.mem_append_right _ (List.mem_append_right _ (List.mem_append_left _ (List.mem_of_getElem? (i := 14) rfl))))))), List.forall_mem_cons.mpr ⟨(List.mem_cons_of_mem _ (List.mem_append_left _ (List.mem_append_right _ (List.mem_append_right _ (List.mem_append_right _ (List.mem_append_left _ (List.mem_of_getElem? (i := 15) rfl))))))), List.forall_mem_cons.mpr ⟨(List.mem_cons_of_mem _ (List.mem_append_left _ (List.mem_append_right _ (List.mem_append_right _ (List.mem_append_right _ (List.mem_append_left _ (List.mem_of_getElem? (i := 16) rfl))))))), List.forall_mem_cons.mpr ⟨(List.mem_cons_of_mem _ (List.mem_append_left _ (List.mem_append_right _ (List.mem_append_right _ (List.mem_append_right _ (List.mem_append_left _ (List.mem_of_getElem? (i := 17) rfl))))))), List.forall_mem_cons.mpr ⟨(List.mem_cons_of_mem _ (List.mem_append_left _ (List.mem_append_right _ (List.mem_append_right _ (List.mem_append_right _ (List.mem_append_left _ (List.mem_of_getElem? (i := 18) rfl))))))), List.forall_mem_cons.mpr ⟨(List.mem_cons_of_mem _ (List.mem_append_left _ (List.mem_append_right _ (List.mem_append_right _ (List.mem_append_right _ (List.mem_append_left _ (List.mem_of_getElem? (i := 19) rfl))))))), List.forall_mem_cons.mpr ⟨(List.mem_cons_of_mem _ (List.mem_append_left _ (List.mem_append_right _ (List.mem_append_right _ (List.mem_append_right _ (List.mem_append_left _ (List.mem_of_getElem? (i := 20) rfl))))))), List.forall_mem_cons.mpr ⟨(List.mem_cons_of_mem _ (List.mem_append_left _ (List.mem_append_right _ (List.mem_append_right _ (List.mem_append_right _ (List.mem_append_left _ (List.mem_of_getElem? (i := 21) rfl))))))), List.forall_mem_cons.mpr ⟨(List.mem_cons_of_mem _ (List.mem_append_left _ (List.mem_append_right _ (List.mem_append_right _ (List.mem_append_right _ (List.mem_append_left _ (List.mem_of_getElem? (i := 22) rfl))))))), List.forall_mem_cons.mpr ⟨(List.mem_cons_of_mem _ (List.mem_append_left _ (List.mem_append_right _ (List.mem_append_right _ (List.mem_append_right _ (List.mem_append_left _ (List.mem_of_getElem? (i := 23) rfl))))))), List.forall_mem_cons.mpr ⟨(List.mem_cons_of_mem _ (List.mem_append_left _ (List.mem_append_right _ (List.mem_append_right _ (List.mem_append_right _ (List.mem_append_right _ (List.mem_append_left _ (List.mem_of_getElem? (i := 0) rfl)))))))), List.forall_mem_cons.mpr ⟨(List.mem_cons_of_mem _ (List.mem_append_left _ (List.mem_append_right _ (List.mem_append_right _ (List.mem_append_right _ (List.mem_append_right _ (List.mem_append_left _ (List.mem_of_getElem? (i := 1) rfl)))))))), List.forall_mem_cons.mpr ⟨(List.mem_cons_of_mem _ (List.mem_append_left _ (List.mem_append_right _ (List.mem_append_right _ (List.mem_append_right _ (List.mem_append_right _ (List.mem_append_left _ (List.mem_of_getElem? (i := 2) rfl)))))))), List.forall_mem_cons.mpr ⟨(List.mem_cons_of_mem _ (List.mem_append_left _ (List.mem_append_right _ (List.mem_append_right _ (List.mem_append_right _ (List.mem_append_right _ (List.mem_append_left _ (List.mem_of_getElem? (i := 3) rfl)))))))), List.forall_mem_cons.mpr ⟨(List.mem_cons_of_mem _ (List.mem_append_left _ (List.mem_append_right _ (List.mem_append_right _ (List.mem_append_right _ (List.mem_append_right _ (List.mem_append_left _ (List.mem_of_getElem? (i := 4) rfl)))))))), List.forall_mem_cons.mpr ⟨(List.mem_cons_of_mem _ (List.mem_append_left _ (List.mem_append_right _ (List.mem_append_right _ (List.mem_append_right _ (List.mem_append_right _ (List.mem_append_left _ (List.mem_of_getElem? (i := 5) rfl)))))))), fun _ h => absurd h List.not_mem_nil⟩⟩⟩⟩⟩⟩⟩⟩⟩⟩⟩⟩⟩⟩⟩⟩⟩⟩⟩⟩⟩⟩⟩⟩, List.forall_mem_cons.mpr ⟨(List.mem_cons_of_mem _ (List.mem_append_left _ (List.mem_append_right _ (List.mem_append_right _ (List.mem_append_right _ (List.mem_append_right _ (List.mem_append_left _ (List.mem_of_getElem? (i := 6) rfl)))))))), List.forall_mem_cons.mpr ⟨(List.mem_cons_of_mem _ (List.mem_append_left _ (List.mem_append_right _ (List.mem_append_right _ (List.mem_append_right _ (List.mem_append_right _ (List.mem_append_left _ (List.mem_of_getElem? (i := 7) rfl)))))))), List.forall_mem_cons.mpr ⟨(List.mem_cons_of_mem _ (List.mem_append_left _ (List.mem_append_right _ (List.mem_append_right _ (List.mem_append_right _ (List.mem_append_right _ (List.mem_append_left _ (List.mem_of_getElem? (i := 8) rfl)))))))), List.forall_mem_cons.mpr ⟨(List.mem_cons_of_mem _ (List.mem_append_left _ (List.mem_append_right _ (List.mem_append_right _ (List.mem_append_right _ (List.mem_append_right _ (List.mem_append_left _ (List.mem_of_getElem? (i := 9) rfl)))))))), List.forall_mem_cons.mpr ⟨(List.mem_cons_of_mem _ (List.mem_append_left _ (List.mem_append_right _ (List.mem_append_right _ (List.mem_append_right _ (List.mem_append_right _ (List.mem_append_left _ (List.mem_of_getElem? (i := 10) rfl)))))))), List.forall_mem_cons.mpr ⟨(List.mem_cons_of_mem _ (List.mem_append_left _ (List.mem_append_right _ (List.mem_append_right _ (List.mem_append_right _ (List.mem_append_right _ (List.mem_append_left _ (List.mem_of_getElem? (i := 11) rfl)))))))), List.forall_mem_cons.mpr ⟨(List.mem_cons_of_mem _ (List.mem_append_left _ (List.mem_append_right _ (List.mem_append_right _ (List.mem_append_right _ (List.mem_append_right _ (List.mem_append_left _ (List.mem_of_getElem? (i := 12) rfl)))))))), List.forall_mem_cons.mpr ⟨(List.mem_cons_of_mem _ (List.mem_append_left _ (List.mem_append_right _ (List.mem_append_right _ (List.mem_append_right _ (List.mem_append_right _ (List.mem_append_left _ (List.mem_of_getElem? (i := 13) rfl)))))))), List.forall_mem_cons.mpr ⟨(List.mem_cons_of_mem _ (List.mem_append_left _ (List.mem_append_right _ (List.mem_append_right _ (List.mem_append_right _ (List.mem_append_right _ (List.mem_append_left _ (List.mem_of_getElem? (i := 14) rfl)))))))), List.forall_mem_cons.mpr ⟨(List.mem_cons_of_mem _ (List.mem_append_left _ (List.mem_append_right _ (List.mem_append_right _ (List.mem_append_right _ (List.mem_append_right _ (List.mem_append_left _ (List.mem_of_getElem? (i := 15) rfl)))))))), List.forall_mem_cons.mpr ⟨(List.mem_cons_of_mem _ (List.mem_append_left _ (List.mem_append_right _ (List.mem_append_right _ (List.mem_append_right _ (List.mem_append_right _ (List.mem_append_left _ (List.mem_of_getElem? (i := 16) rfl)))))))), List.forall_mem_cons.mpr ⟨(List.mem_cons_of_mem _ (List.mem_append_left _ (List.mem_append_right _ (List.mem_append_right _ (List.mem_append_right _ (List.mem_append_right _ (List.mem_append_left _ (List.mem_of_getElem? (i := 17) rfl)))))))), List.forall_mem_cons.mpr ⟨(List.mem_cons_of_mem _ (List.mem_append_left _ (List.mem_append_right _ (List.mem_append_right _ (List.mem_append_right _ (List.mem_append_right _ (List.mem_append_left _ (List.mem_of_getElem? (i := 18) rfl)))))))), List.forall_mem_cons.mpr ⟨(List.mem_cons_of_mem _ (List.mem_append_left _ (List.mem_append_right _ (List.mem_append_right _ (List.mem_append_right _ (List.mem_append_right _ (List.mem_append_left _ (List.mem_of_getElem? (i := 19) rfl)))))))), List.forall_mem_cons.mpr ⟨(List.mem_cons_of_mem _ (List.mem_append_left _ (List.mem_append_right _ (List.mem_append_right _ (List.mem_append_right _ (List.mem_append_right _ (List.mem_append_left _ (List.mem_of_getElem? (i := 20) rfl)))))))), List.forall_mem_cons.mpr ⟨(List.mem_cons_of_mem _ (List.mem_append_left _ (List.mem_append_right _ (List.mem_append_right _ (List.mem_append_right _ (List.mem_append_right _ (List.mem_append_left _ (List.mem_of_getElem? (i := 21) rfl)))))))), List.forall_mem_cons.mpr ⟨(List.mem_cons_of_mem _ (List.mem_append_left _ (List.mem_append_right _ (List.mem_append_right _ (List.mem_append_right _ (List.mem_append_right _ (List.mem_append_left _ (List.mem_of_getElem? (i := 22) rfl)))))))), List.forall_mem_cons.mpr ⟨(List.mem_cons_of_mem _ (List.mem_append_left _ (List.mem_append_right _ (List.mem_append_right _ (List.mem_append_right _ (List.mem_append_right _ (List.mem_append_left _ (List.mem_of_getElem? (i := 23) rfl)))))))), fun _ h => absurd h List.not_mem_nil⟩⟩⟩⟩⟩⟩⟩⟩⟩⟩⟩⟩⟩⟩⟩⟩⟩⟩⟩⟩⟩⟩, fun _ h => (List.mem_cons_of_mem _ (List.mem_append_right _ h))⟩⟩) gw_wsX6_goesOnWith
set_option maxRecDepth 20000 in
theorem gX6_findFault_X6_goesOnWith : GoodIn wsX6_findFault (wsV RX6 45 RX6 yX6_goesOnWith wsX6_goesOnWith) := goodIn_app (goodIn_of _ (by decide +kernel)) ggX6_findFault_X6_goesOnWith
set_option maxRecDepth 20000 in
theorem gw_wsX6_endsNumber : wsX6_endsNumber.all goodWord = true := by decide +kernel
set_option maxRecDepth 20000 in
theorem ggX6_findFault_X6_endsNumber : GoodIn wsX6_findFault wsX6_endsNumber := goodIn_sub (List.forall_mem_cons.mpr ⟨(List.mem_cons_of_mem _ (List.mem_append_left _ (List.mem_append_right _ (List.mem_append_right _ (List.mem_append_right _ (List.mem_append_right _ (List.mem_append_right _ (List.mem_of_getElem? (i := 3) rfl)))))))), List.forall_mem_append.mpr ⟨List.forall_mem_cons.mpr ⟨(List.mem_cons_of_mem _ (List.mem_append_left _ (List.mem_append_left _ (List.mem_of_getElem? (i := 1) rfl)))), fun _ h => absurd h List.not_mem_nil⟩, fun _ h => (List.mem_cons_of_mem _ (List.mem_append_right _ h))⟩⟩) gw_wsX6_endsNumber
set_option maxRecDepth 20000 in
theorem gX6_findFault_X6_endsNumber : GoodIn wsX6_findFault (wsV RX6 49 RX6 yX6_endsNumber wsX6_endsNumber) := goodIn_app (goodIn_of _ (by decide +kernel)) ggX6_findFault_X6_endsNumber
theorem dX6_findFault_0 : decode cX6_findFault 0 = .ok (.aload_n 0, 1) := by decide +kernel
theorem dX6_findFault_1 : decode cX6_findFault 1 = .ok (.iconst 0, 1) := by decide +kernel
theorem dX6_findFault_2 : decode cX6_findFault 2 = .ok (.putfield 29, 3) := by decide +kernel
theorem dX6_findFault_5 : decode cX6_findFault 5 = .ok (.aload_n 0, 1) := by decide +kernel
theorem dX6_findFault_6 : decode cX6_findFault 6 = .ok (.iconst 0, 1) := by decide +kernel
theorem dX6_findFault_7 : decode cX6_findFault 7 = .ok (.putfield 32, 3) := by decide +kernel
theorem dX6_findFault_10 : decode cX6_findFault 10 = .ok (.iconst 0, 1) := by decide +kernel
theorem dX6_findFault_11 : decode cX6_findFault 11 = .ok (.istore_n 1, 1) := by decide +kernel
theorem dX6_findFault_12 : decode cX6_findFault 12 = .ok (.iload_n 1, 1) := by decide +kernel
theorem dX6_findFault_13 : decode cX6_findFault 13 = .ok (.aload_n 0, 1) := by decide +kernel
theorem dX6_findFault_14 : decode cX6_findFault 14 = .ok (.getfield 15, 3) := by decide +kernel
theorem dX6_findFault_17 : decode cX6_findFault 17 = .ok (.if_icmp .ge 30, 3) := by decide +kernel
theorem dX6_findFault_20 : decode cX6_findFault 20 = .ok (.iload_n 1, 1) := by decide +kernel
theorem dX6_findFault_21 : decode cX6_findFault 21 = .ok (.bipush 80, 2) := by decide +kernel
theorem dX6_findFault_23 : decode cX6_findFault 23 = .ok (.if_icmp .ge 24, 3) := by decide +kernel
theorem dX6_findFault_26 : decode cX6_findFault 26 = .ok (.aload_n 0, 1) := by decide +kernel
theorem dX6_findFault_27 : decode cX6_findFault 27 = .ok (.aload_n 0, 1) := by decide +kernel
theorem dX6_findFault_28 : decode cX6_findFault 28 = .ok (.getfield 9, 3) := by decide +kernel
theorem dX6_findFault_31 : decode cX6_findFault 31 = .ok (.iload_n 1, 1) := by decide +kernel
theorem dX6_findFault_32 : decode cX6_findFault 32 = .ok (.baload, 1) := by decide +kernel
theorem dX6_findFault_33 : decode cX6_findFault 33 = .ok (.invokevirtual 45, 3) := by decide +kernel
theorem dX6_findFault_36 : decode cX6_findFault 36 = .ok (.ifCond .ne 5, 3) := by decide +kernel
theorem dX6_findFault_39 : decode cX6_findFault 39 = .ok (.iload_n 1, 1) := by decide +kernel
theorem dX6_findFault_40 : decode cX6_findFault 40 = .ok (.ireturn, 1) := by decide +kernel
theorem dX6_findFault_41 : decode cX6_findFault 41 = .ok (.iinc 1 1, 3) := by decide +kernel
theorem dX6_findFault_44 : decode cX6_findFault 44 = .ok (.goto (-32), 3) := by decide +kernel
theorem dX6_findFault_47 : decode cX6_findFault 47 = .ok (.aload_n 0, 1) := by decide +kernel
theorem dX6_findFault_48 : decode cX6_findFault 48 = .ok (.invokevirtual 49, 3) := by decide +kernel
theorem dX6_findFault_51 : decode cX6_findFault 51 = .ok (.ifCond .eq 14, 3) := by decide +kernel
theorem dX6_findFault_54 : decode cX6_findFault 54 = .ok (.aload_n 0, 1) := by decide +kernel
theorem dX6_findFault_55 : decode cX6_findFault 55 = .ok (.getfield 35, 3) := by decide +kernel
theorem dX6_findFault_58 : decode cX6_findFault 58 = .ok (.ifCond .ne 7, 3) := by decide +kernel
theorem dX6_findFault_61 : decode cX6_findFault 61 = .ok (.iconst (-1), 1) := by decide +kernel
theorem dX6_findFault_62 : decode cX6_findFault 62 = .ok (.goto 7, 3) := by decide +kernel
theorem dX6_findFault_65 : decode cX6_findFault 65 = .ok (.aload_n 0, 1) := by decide +kernel
theorem dX6_findFault_66 : decode cX6_findFault 66 = .ok (.getfield 15, 3) := by decide +kernel
theorem dX6_findFault_69 : decode cX6_findFault 69 = .ok (.ireturn, 1) := by decide +kernel
set_option maxRecDepth 20000 in
theorem gw_wsX6_beginsAct : wsX6_beginsAct.all goodWord = true := by decide +kernel
set_option maxRecDepth 20000 in
theorem ggX6_goesOnWith_X6_beginsAct : GoodIn wsX6_goesOnWith wsX6_beginsAct := goodIn_sub (List.forall_mem_cons.mpr ⟨(List.mem_cons_of_mem _ (List.mem_append_left _ (List.mem_append_left _ (List.mem_of_getElem? (i := 5) rfl)))), List.forall_mem_append.mpr ⟨List.forall_mem_append.mpr ⟨List.forall_mem_cons.mpr ⟨(List.mem_cons_of_mem _ (List.mem_append_left _ (List.mem_append_left _ (List.mem_of_getElem? (i := 6) rfl)))), List.forall_mem_cons.mpr ⟨(List.mem_cons_of_mem _ (List.mem_append_left _ (List.mem_append_left _ (List.mem_of_getElem? (i := 7) rfl)))), List.forall_mem_cons.mpr ⟨(List.mem_cons_of_mem _ (List.mem_append_left _ (List.mem_append_left _ (List.mem_of_getElem? (i := 8) rfl)))), List.forall_mem_cons.mpr ⟨(List.mem_cons_of_mem _ (List.mem_append_left _ (List.mem_append_left _ (List.mem_of_getElem? (i := 9) rfl)))), List.forall_mem_cons.mpr ⟨(List.mem_cons_of_mem _ (List.mem_append_left _ (List.mem_append_left _ (List.mem_of_getElem? (i := 10) rfl)))), List.forall_mem_cons.mpr ⟨(List.mem_cons_of_mem _ (List.mem_append_left _ (List.mem_append_left _ (List.mem_of_getElem? (i := 11) rfl)))), List.forall_mem_cons.mpr ⟨(List.mem_cons_of_mem _ (List.mem_append_left _ (List.mem_append_left _ (List.mem_of_getElem? (i := 12) rfl)))), List.forall_mem_cons.mpr ⟨(List.mem_cons_of_mem _ (List.mem_append_left _ (List.mem_append_left _ (List.mem_of_getElem? (i := 0) rfl)))), List.forall_mem_cons.mpr ⟨(List.mem_cons_of_mem _ (List.mem_append_left _ (List.mem_append_left _ (List.mem_of_getElem? (i := 13) rfl)))), List.forall_mem_cons.mpr ⟨(List.mem_cons_of_mem _ (List.mem_append_left _ (List.mem_append_left _ (List.mem_of_getElem? (i := 14) rfl)))), List.forall_mem_cons.mpr ⟨(List.mem_cons_of_mem _ (List.mem_append_left _ (List.mem_append_left _ (List.mem_of_getElem? (i := 15) rfl)))), List.forall_mem_cons.mpr ⟨(List.mem_cons_of_mem _ (List.mem_append_left _ (List.mem_append_left _ (List.mem_of_getElem? (i := 16) rfl)))), List.forall_mem_cons.mpr ⟨(List.mem_cons_of_mem _ (List.mem_append_left _ (List.mem_append_left _ (List.mem_of_getElem? (i := 17) rfl)))), List.forall_mem_cons.mpr ⟨(List.mem_cons_of_mem _ (List.mem_append_left _ (List.mem_append_left _ (List.mem_of_getElem? (i := 18) rfl)))), List.forall_mem_cons.mpr ⟨(List.mem_cons_of_mem _ (List.mem_append_left _ (List.mem_append_left _ (List.mem_of_getElem? (i := 19) rfl)))), List.forall_mem_cons.mpr ⟨(List.mem_cons_of_mem _ (List.mem_append_left _ (List.mem_append_left _ (List.mem_of_getElem? (i := 20) rfl)))), List.forall_mem_cons.mpr ⟨(List.mem_cons_of_mem _ (List.mem_append_left _ (List.mem_append_left _ (List.mem_of_getElem? (i := 21) rfl)))), List.forall_mem_cons.mpr ⟨(List.mem_cons_of_mem _ (List.mem_append_left _ (List.mem_append_left _ (List.mem_of_getElem? (i := 22) rfl)))), List.forall_mem_cons.mpr ⟨(List.mem_cons_of_mem _ (List.mem_append_left _ (List.mem_append_left _ (List.mem_of_getElem? (i := 23) rfl)))), List.forall_mem_cons.mpr ⟨(List.mem_cons_of_mem _ (List.mem_append_left _ (List.mem_append_right _ (List.mem_append_left _ (List.mem_of_getElem? (i := 0) rfl))))), List.forall_mem_cons.mpr ⟨(List.mem_cons_of_mem _ (List.mem_append_left _ (List.mem_append_right _ (List.mem_append_left _ (List.mem_of_getElem? (i := 1) rfl))))), List.forall_mem_cons.mpr ⟨(List.mem_cons_of_mem _ (List.mem_append_left _ (List.mem_append_right _ (List.mem_append_left _ (List.mem_of_getElem? (i := 2) rfl))))), List.forall_mem_cons.mpr ⟨(List.mem_cons_of_mem _ (List.mem_append_left _ (List.mem_append_right _ (List.mem_append_left _ (List.mem_of_getElem? (i := 3) rfl))))), List.forall_mem_cons.mpr ⟨(List.mem_cons_of_mem _ (List.mem_append_left _ (List.mem_append_right _ (List.mem_append_left _ (List.mem_of_getElem? (i := 4) rfl))))), fun _ h => absurd h List.not_mem_nil⟩⟩⟩⟩⟩⟩⟩⟩⟩⟩⟩⟩⟩⟩⟩⟩⟩⟩⟩⟩⟩⟩⟩⟩, List.forall_mem_append.mpr ⟨List.forall_mem_cons.mpr ⟨(List.mem_cons_of_mem _ (List.mem_append_left _ (List.mem_append_right _ (List.mem_append_left _ (List.mem_of_getElem? (i := 5) rfl))))), List.forall_mem_cons.mpr ⟨(List.mem_cons_of_mem _ (List.mem_append_left _ (List.mem_append_right _ (List.mem_append_left _ (List.mem_of_getElem? (i := 6) rfl))))), List.forall_mem_cons.mpr ⟨(List.mem_cons_of_mem _ (List.mem_append_left _ (List.mem_append_right _ (List.mem_append_left _ (List.mem_of_getElem? (i := 7) rfl))))), List.forall_mem_cons.mpr ⟨(List.mem_cons_of_mem _ (List.mem_append_left _ (List.mem_append_right _ (List.mem_append_left _ (List.mem_of_getElem? (i := 8) rfl))))), List.forall_mem_cons.mpr ⟨(List.mem_cons_of_mem _ (List.mem_append_left _ (List.mem_append_right _ (List.mem_append_left _ (List.mem_of_getElem? (i := 9) rfl))))), List.forall_mem_cons.mpr ⟨(List.mem_cons_of_mem _ (List.mem_append_left _ (List.mem_append_right _ (List.mem_append_left _ (List.mem_of_getElem? (i := 10) rfl))))), List.forall_mem_cons.mpr ⟨(List.mem_cons_of_mem _ (List.mem_append_left _ (List.mem_append_right _ (List.mem_append_left _ (List.mem_of_getElem? (i := 11) rfl))))), List.forall_mem_cons.mpr ⟨(List.mem_cons_of_mem _ (List.mem_append_left _ (List.mem_append_right _ (List.mem_append_left _ (List.mem_of_getElem? (i := 12) rfl))))), List.forall_mem_cons.mpr ⟨(List.mem_cons_of_mem _ (List.mem_append_left _ (List.mem_append_right _ (List.mem_append_left _ (List.mem_of_getElem? (i := 13) rfl))))), List.forall_mem_cons.mpr ⟨(List.mem_cons_of_mem _ (List.mem_append_left _ (List.mem_append_right _ (List.mem_append_left _ (List.mem_of_getElem? (i := 14) rfl))))), List.forall_mem_cons.mpr ⟨(List.mem_cons_of_mem _ (List.mem_append_left _ (List.mem_append_right _ (List.mem_append_left _ (List.mem_of_getElem? (i := 15) rfl))))), List.forall_mem_cons.mpr ⟨(List.mem_cons_of_mem _ (List.mem_append_left _ (List.mem_append_right _ (List.mem_append_left _ (List.mem_of_getElem? (i := 16) rfl))))), List.forall_mem_cons.mpr ⟨(List.mem_cons_of_mem _ (List.mem_append_left _ (List.mem_append_right _ (List.mem_append_left _ (List.mem_of_getElem? (i := 17) rfl))))), List.forall_mem_cons.mpr ⟨(List.mem_cons_of_mem _ (List.mem_append_left _ (List.mem_append_right _ (List.mem_append_left _ (List.mem_of_getElem? (i := 18) rfl))))), List.forall_mem_cons.mpr ⟨(List.mem_cons_of_mem _ (List.mem_append_left _ (List.mem_append_right _ (List.mem_append_left _ (List.mem_of_getElem? (i := 19) rfl))))), List.forall_mem_cons.mpr ⟨(List.mem_cons_of_mem _ (List.mem_append_left _ (List.mem_append_right _ (List.mem_append_left _ (List.mem_of_getElem? (i := 20) rfl))))), List.forall_mem_cons.mpr ⟨(List.mem_cons_of_mem _ (List.mem_append_left _ (List.mem_append_right _ (List.mem_append_left _ (List.mem_of_getElem? (i := 21) rfl))))), List.forall_mem_cons.mpr ⟨(List.mem_cons_of_mem _ (List.mem_append_left _ (List.mem_append_right _ (List.mem_append_left _ (List.mem_of_getElem? (i := 22) rfl))))), List.forall_mem_cons.mpr ⟨(List.mem_cons_of_mem _ (List.mem_append_left _ (List.mem_append_right _ (List.mem_append_left _ (List.mem_of_getElem? (i := 23) rfl))))), List.forall_mem_cons.mpr ⟨(List.mem_cons_of_mem _ (List.mem_append_left _ (List.mem_append_right _ (List.mem_append_right _ (List.mem_append_left _ (List.mem_of_getElem? (i := 0) rfl)))))), List.forall_mem_cons.mpr ⟨(List.mem_cons_of_mem _ (List.mem_append_left _ (List.mem_append_right _ (List.mem_append_right _ (List.mem_append_left _ (List.mem_of_getElem? (i := 1) rfl)))))), List.forall_mem_cons.mpr ⟨(List.mem_cons_of_mem _ (List.mem_append_left _ (List.mem_append_right _ (List.mem_append_right _ (List.mem_append_left _ (List.mem_of_getElem? (i := 2) rfl)))))), List.forall_mem_cons.mpr ⟨(List.mem_cons_of_mem _ (List.mem_append_left _ (List.mem_append_right _ (List.mem_append_right _ (List.mem_append_left _ (List.mem_of_getElem? (i := 3) rfl)))))), List.forall_mem_cons.mpr ⟨(List.mem_cons_of_mem _ (List.mem_append_left _ (List.mem_append_right _ (List.mem_append_right _ (List.mem_append_left _ (List.mem_of_getElem? (i := 4) rfl)))))), fun _ h => absurd h List.not_mem_nil⟩⟩⟩⟩⟩⟩⟩⟩⟩⟩⟩⟩⟩⟩⟩⟩⟩⟩⟩⟩⟩⟩⟩⟩, List.forall_mem_append.mpr ⟨List.forall_mem_cons.mpr ⟨(List.mem_cons_of_mem _ (List.mem_append_left _ (List.mem_append_right _ (List.mem_append_right _ (List.mem_append_left _ (List.mem_of_getElem? (i := 5) rfl)))))), List.forall_mem_cons.mpr ⟨(List.mem_cons_of_mem _ (List.mem_append_left _ (List.mem_append_right _ (List.mem_append_right _ (List.mem_append_left _ (List.mem_of_getElem? (i := 6) rfl)))))), List.forall_mem_cons.mpr ⟨(List.mem_cons_of_mem _ (List.mem_append_left _ (List.mem_append_right _ (List.mem_append_right _ (List.mem_append_left _ (List.mem_of_getElem? (i := 7) rfl)))))), List.forall_mem_cons.mpr ⟨(List.mem_cons_of_mem _ (List.mem_append_left _ (List.mem_append_right _ (List.mem_append_right _ (List.mem_append_left _ (List.mem_of_getElem? (i := 8) rfl)))))), List.forall_mem_cons.mpr ⟨(List.mem_cons_of_mem _ (List.mem_append_left _ (List.mem_append_right _ (List.mem_append_right _ (List.mem_append_left _ (List.mem_of_getElem? (i := 9) rfl)))))), List.forall_mem_cons.mpr ⟨(List.mem_cons_of_mem _ (List.mem_append_left _ (List.mem_append_right _ (List.mem_append_right _ (List.mem_append_left _ (List.mem_of_getElem? (i := 10) rfl)))))), List.forall_mem_cons.mpr ⟨(List.mem_cons_of_mem _ (List.mem_append_left _ (List.mem_append_right _ (List.mem_append_right _ (List.mem_append_left _ (List.mem_of_getElem? (i := 11) rfl)))))), List.forall_mem_cons.mpr ⟨(List.mem_cons_of_mem _ (List.mem_append_left _ (List.mem_append_right _ (List.mem_append_right _ (List.mem_append_left _ (List.mem_of_getElem? (i := 12) rfl)))))), List.forall_mem_cons.mpr ⟨(List.mem_cons_of_mem _ (List.mem_append_left _ (List.mem_append_right _ (List.mem_append_right _ (List.mem_append_left _ (List.mem_of_getElem? (i := 13) rfl)))))), List.forall_mem_cons.mpr ⟨(List.mem_cons_of_mem _ (List.mem_append_left _ (List.mem_append_right _ (List.mem_append_right _ (List.mem_append_left _ (List.mem_of_getElem? (i := 14) rfl)))))), List.forall_mem_cons.mpr ⟨(List.mem_cons_of_mem _ (List.mem_append_left _ (List.mem_append_right _ (List.mem_append_right _ (List.mem_append_left _ (List.mem_of_getElem? (i := 15) rfl)))))), List.forall_mem_cons.mpr ⟨(List.mem_cons_of_mem _ (List.mem_append_left _ (List.mem_append_right _ (List.mem_append_right _ (List.mem_append_left _ (List.mem_of_getElem? (i := 16) rfl)))))), List.forall_mem_cons.mpr ⟨(List.mem_cons_of_mem _ (List.mem_append_left _ (List.mem_append_right _ (List.mem_append_right _ (List.mem_append_left _ (List.mem_of_getElem? (i := 17) rfl)))))), List.forall_mem_cons.mpr ⟨(List.mem_cons_of_mem _ (List.mem_append_left _ (List.mem_append_right _ (List.mem_append_right _ (List.mem_append_left _ (List.mem_of_getElem? (i := 18) rfl)))))), List.forall_mem_cons.mpr ⟨(List.mem_cons_of_mem _ (List.mem_append_left _ (List.mem_append_right _ (List.mem_append_right _ (List.mem_append_left _ (List.mem_of_getElem? (i := 19) rfl)))))), List.forall_mem_cons.mpr ⟨(List.mem_cons_of_mem _ (List.mem_append_left _ (List.mem_append_right _ (List.mem_append_right _ (List.mem_append_left _ (List.mem_of_getElem? (i := 20) rfl)))))), List.forall_mem_cons.mpr ⟨(List.mem_cons_of_mem _ (List.mem_append_left _ (List.mem_append_right _ (List.mem_append_right _ (List.mem_append_left _ (List.mem_of_getElem? (i := 21) rfl)))))), List.forall_mem_cons.mpr ⟨(List.mem_cons_of_mem _ (List.mem_append_left _ (List.mem_append_right _ (List.mem_append_right _ (List.mem_append_left _ (List.mem_of_getElem? (i := 22) rfl)))))), List.forall_mem_cons.mpr ⟨(List.mem_cons_of_mem _ (List.mem_append_left _ (List.mem_append_right _ (List.mem_append_right _ (List.mem_append_left _ (List.mem_of_getElem? (i := 23) rfl)))))), List.forall_mem_cons.mpr ⟨(List.mem_cons_of_mem _ (List.mem_append_left _ (List.mem_append_right _ (List.mem_append_right _ (List.mem_append_right _ (List.mem_append_left _ (List.mem_of_getElem? (i := 0) rfl))))))), List.forall_mem_cons.mpr ⟨(List.mem_cons_of_mem _ (List.mem_append_left _ (List.mem_append_right _ (List.mem_append_right _ (List.mem_append_right _ (List.mem_append_left _ (List.mem_of_getElem? (i := 1) rfl))))))), List.forall_mem_cons.mpr ⟨(List.mem_cons_of_mem _ (List.mem_append_left _ (List.mem_append_right _ (List.mem_append_right _ (List.mem_append_right _ (List.mem_append_left _ (List.mem_of_getElem? (i := 2) rfl))))))), List.forall_mem_cons.mpr ⟨(List.mem_cons_of_mem _ (List.mem_append_left _ (List.mem_append_right _ (List.mem_append_right _ (List.mem_append_right _ (List.mem_append_left _ (List.mem_of_getElem? (i := 3) rfl))))))), List.forall_mem_cons.mpr ⟨(List.mem_cons_of_mem _ (List.mem_append_left _ (List.mem_append_right _ (List.mem_append_right _ (List.mem_append_right _ (List.mem_append_left _ (List.mem_of_getElem? (i := 4) rfl))))))), fun _ h => absurd h List.not_mem_nil⟩⟩⟩⟩⟩⟩⟩⟩⟩⟩⟩⟩⟩⟩⟩⟩⟩⟩⟩⟩⟩⟩⟩⟩, List.forall_mem_append.mpr ⟨List.forall_mem_cons.mpr ⟨(List.mem_cons_of_mem _ (List.mem_append_left _ (List.mem_append_right _ (List.mem_append_right _ (List.mem_append_right _ (List.mem_append_left _ (List.mem_of_getElem? (i := 5) rfl))))))), List.forall_mem_cons.mpr ⟨(List.mem_cons_of_mem _ (List.mem_append_left _ (List.mem_append_right _ (List.mem_append_right _ (List.mem_append_right _ (List.mem_append_left _ (List.mem_of_getElem? (i := 6) rfl))))))), List.forall_mem_cons.mpr ⟨(List.mem_cons_of_mem _ (List.mem_append_left _ (List.mem_append_right _ (List.mem_append_right _ (List.mem_append_right _ (List.mem_append_left _ (List.mem_of_getElem? (i := 7) rfl))))))), List.forall_mem_cons.mpr ⟨(List.mem_cons_of_mem _ (List.mem_append_left _ (List.mem_append_right _ (List.mem_append_right _ (List.mem_append_right _ (List.mem_append_left _ (List.mem_of_getElem? (i := 8) rfl))))))), List.forall_mem_cons.mpr ⟨(List.mem_cons_of_mem _ (List.mem_append_left _ (List.mem_append_right _ (List.mem_append_right _ (List.mem_append_right _ (List.mem_append_left _ (List.mem_of_getElem? (i := 9) rfl))))))), List.forall_mem_cons.mpr ⟨(List.mem_cons_of_mem _ (List.mem_append_left _ (List.mem_append_right _ (List.mem_append_right _ (List.mem_append_right _ (List.mem_append_left _ (List.mem_of_getElem? (i := 10) rfl))))))), List.forall_mem_cons.mpr ⟨(List.mem_cons_of_mem _ (List.mem_append_left _ (List.mem_append_right _ (List.mem_append_right _ (List.mem_append_right _ (List.mem_append_left _ (List.mem_of_getElem? (i := 11) rfl))))))), List.forall_mem_cons.mpr ⟨(List.mem_cons_of_mem _ (List.mem_append_left _ (List.mem_append_right _ (List.mem_append_right _ (List.mem_append_right _ (List.mem_append_left _ (List.mem_of_getElem? (i := 12) rfl))))))), List.forall_mem_cons.mpr ⟨(List.mem_cons_of_mem _ (List.mem_append_left _ (List.mem_append_right _ (List.mem_append_right _ (List.mem_append_right _ (List.mem_append_left _ (List.mem_of_getElem? (i := 13) rfl))))))), List.forall_mem_cons.mpr ⟨(List.mem_cons_of_mem _ (List.mem_append_left _ (List.mem_append_right _ (List.mem_append_right _ (List.mem_append_right _ (List.mem_append_left _ (List.mem_of_getElem? (i := 14) rfl))))))), List.forall_mem_cons.mpr ⟨(List.mem_cons_of_mem _ (List.mem_append_left _ (List.mem_append_right _ (List.mem_append_right _ (List.mem_append_right _ (List.mem_append_left _ (List.mem_of_getElem? (i := 15) rfl))))))), List.forall_mem_cons.mpr ⟨(List.mem_cons_of_mem _ (List.mem_append_left _ (List.mem_append_right _ (List.mem_append_right _ (List.mem_append_right _ (List.mem_append_left _ (List.mem_of_getElem? (i := 16) rfl))))))), List.forall_mem_cons.mpr ⟨(List.mem_cons_of_mem _ (List.mem_append_left _ (List.mem_append_right _ (List.mem_append_right _ (List.mem_append_right _ (List.mem_append_left _ (List.mem_of_getElem? (i := 17) rfl))))))), List.forall_mem_cons.mpr ⟨(List.mem_cons_of_mem _ (List.mem_append_left _ (List.mem_append_right _ (List.mem_append_right _ (List.mem_append_right _ (List.mem_append_left _ (List.mem_of_getElem? (i := 18) rfl))))))), List.forall_mem_cons.mpr ⟨(List.mem_cons_of_mem _ (List.mem_append_left _ (List.mem_append_right _ (List.mem_append_right _ (List.mem_append_right _ (List.mem_append_left _ (List.mem_of_getElem? (i := 19) rfl))))))), List.forall_mem_cons.mpr ⟨(List.mem_cons_of_mem _ (List.mem_append_left _ (List.mem_append_right _ (List.mem_append_right _ (List.mem_append_right _ (List.mem_append_left _ (List.mem_of_getElem? (i := 20) rfl))))))), List.forall_mem_cons.mpr ⟨(List.mem_cons_of_mem _ (List.mem_append_left _ (List.mem_append_right _ (List.mem_append_right _ (List.mem_append_right _ (List.mem_append_left _ (List.mem_of_getElem? (i := 21) rfl))))))), List.forall_mem_cons.mpr ⟨(List.mem_cons_of_mem _ (List.mem_append_left _ (List.mem_append_right _ (List.mem_append_right _ (List.mem_append_right _ (List.mem_append_left _ (List.mem_of_getElem? (i := 22) rfl))))))), List.forall_mem_cons.mpr ⟨(List.mem_cons_of_mem _ (List.mem_append_left _ (List.mem_append_right _ (List.mem_append_right _ (List.mem_append_right _ (List.mem_append_left _ (List.mem_of_getElem? (i := 23) rfl))))))), List.forall_mem_cons.mpr ⟨(List.mem_cons_of_mem _ (List.mem_append_left _ (List.mem_append_right _ (List.mem_append_right _ (List.mem_append_right _ (List.mem_append_right _ (List.mem_of_getElem? (i := 0) rfl))))))), List.forall_mem_cons.mpr ⟨(List.mem_cons_of_mem _ (List.mem_append_left _ (List.mem_append_right _ (List.mem_append_right _ (List.mem_append_right _ (List.mem_append_right _ (List.mem_of_getElem? (i := 1) rfl))))))), List.forall_mem_cons.mpr ⟨(List.mem_cons_of_mem _ (List.mem_append_left _ (List.mem_append_right _ (List.mem_append_right _ (List.mem_append_right _ (List.mem_append_right _ (List.mem_of_getElem? (i := 2) rfl))))))), List.forall_mem_cons.mpr ⟨(List.mem_cons_of_mem _ (List.mem_append_left _ (List.mem_append_right _ (List.mem_append_right _ (List.mem_append_right _ (List.mem_append_right _ (List.mem_of_getElem? (i := 3) rfl))))))), List.forall_mem_cons.mpr ⟨(List.mem_cons_of_mem _ (List.mem_append_left _ (List.mem_append_right _ (List.mem_append_right _ (List.mem_append_right _ (List.mem_append_right _ (List.mem_of_getElem? (i := 4) rfl))))))), fun _ h => absurd h List.not_mem_nil⟩⟩⟩⟩⟩⟩⟩⟩⟩⟩⟩⟩⟩⟩⟩⟩⟩⟩⟩⟩⟩⟩⟩⟩, List.forall_mem_cons.mpr ⟨(List.mem_cons_of_mem _ (List.mem_append_left _ (List.mem_append_right _ (List.mem_append_right _ (List.mem_append_right _ (List.mem_append_right _ (List.mem_of_getElem? (i := 5) rfl))))))), fun _ h => absurd h List.not_mem_nil⟩⟩⟩⟩⟩, fun _ h => (List.mem_cons_of_mem _ (List.mem_append_right _ h))⟩⟩) gw_wsX6_beginsAct
set_option maxRecDepth 20000 in
theorem gX6_goesOnWith_X6_beginsAct : GoodIn wsX6_goesOnWith (wsV RX6 53 RX6 yX6_beginsAct wsX6_beginsAct) := goodIn_app (goodIn_of _ (by decide +kernel)) ggX6_goesOnWith_X6_beginsAct
set_option maxRecDepth 20000 in
theorem gw_wsX6_beginsNumber : wsX6_beginsNumber.all goodWord = true := by decide +kernel
set_option maxRecDepth 20000 in
theorem ggX6_goesOnWith_X6_beginsNumber : GoodIn wsX6_goesOnWith wsX6_beginsNumber := goodIn_sub (List.forall_mem_cons.mpr ⟨(List.mem_cons_of_mem _ (List.mem_append_left _ (List.mem_append_right _ (List.mem_append_right _ (List.mem_append_right _ (List.mem_append_right _ (List.mem_of_getElem? (i := 9) rfl))))))), List.forall_mem_append.mpr ⟨List.forall_mem_cons.mpr ⟨(List.mem_cons_of_mem _ (List.mem_append_left _ (List.mem_append_left _ (List.mem_of_getElem? (i := 12) rfl)))), List.forall_mem_cons.mpr ⟨(List.mem_cons_of_mem _ (List.mem_append_left _ (List.mem_append_left _ (List.mem_of_getElem? (i := 0) rfl)))), List.forall_mem_cons.mpr ⟨(List.mem_cons_of_mem _ (List.mem_append_left _ (List.mem_append_right _ (List.mem_append_right _ (List.mem_append_right _ (List.mem_append_right _ (List.mem_of_getElem? (i := 10) rfl))))))), List.forall_mem_cons.mpr ⟨(List.mem_cons_of_mem _ (List.mem_append_left _ (List.mem_append_right _ (List.mem_append_right _ (List.mem_append_right _ (List.mem_append_right _ (List.mem_of_getElem? (i := 11) rfl))))))), List.forall_mem_cons.mpr ⟨(List.mem_cons_of_mem _ (List.mem_append_left _ (List.mem_append_right _ (List.mem_append_right _ (List.mem_append_right _ (List.mem_append_right _ (List.mem_of_getElem? (i := 12) rfl))))))), List.forall_mem_cons.mpr ⟨(List.mem_cons_of_mem _ (List.mem_append_left _ (List.mem_append_left _ (List.mem_of_getElem? (i := 4) rfl)))), List.forall_mem_cons.mpr ⟨(List.mem_cons_of_mem _ (List.mem_append_left _ (List.mem_append_right _ (List.mem_append_right _ (List.mem_append_right _ (List.mem_append_right _ (List.mem_of_getElem? (i := 13) rfl))))))), List.forall_mem_cons.mpr ⟨(List.mem_cons_of_mem _ (List.mem_append_left _ (List.mem_append_left _ (List.mem_of_getElem? (i := 6) rfl)))), List.forall_mem_cons.mpr ⟨(List.mem_cons_of_mem _ (List.mem_append_left _ (List.mem_append_left _ (List.mem_of_getElem? (i := 11) rfl)))), List.forall_mem_cons.mpr ⟨(List.mem_cons_of_mem _ (List.mem_append_left _ (List.mem_append_left _ (List.mem_of_getElem? (i := 9) rfl)))), List.forall_mem_cons.mpr ⟨(List.mem_cons_of_mem _ (List.mem_append_left _ (List.mem_append_left _ (List.mem_of_getElem? (i := 8) rfl)))), fun _ h => absurd h List.not_mem_nil⟩⟩⟩⟩⟩⟩⟩⟩⟩⟩⟩, fun _ h => (List.mem_cons_of_mem _ (List.mem_append_right _ h))⟩⟩) gw_wsX6_beginsNumber
set_option maxRecDepth 20000 in
theorem gX6_goesOnWith_X6_beginsNumber : GoodIn wsX6_goesOnWith (wsV RX6 56 RX6 yX6_beginsNumber wsX6_beginsNumber) := goodIn_app (goodIn_of _ (by decide +kernel)) ggX6_goesOnWith_X6_beginsNumber
set_option maxRecDepth 20000 in
theorem gw_wsX6_addsFigure : wsX6_addsFigure.all goodWord = true := by decide +kernel
set_option maxRecDepth 20000 in
theorem ggX6_goesOnWith_X6_addsFigure : GoodIn wsX6_goesOnWith wsX6_addsFigure := goodIn_sub (List.forall_mem_cons.mpr ⟨(List.mem_cons_of_mem _ (List.mem_append_left _ (List.mem_append_right _ (List.mem_append_right _ (List.mem_append_right _ (List.mem_append_right _ (List.mem_of_getElem? (i := 13) rfl))))))), List.forall_mem_append.mpr ⟨List.forall_mem_cons.mpr ⟨(List.mem_cons_of_mem _ (List.mem_append_left _ (List.mem_append_left _ (List.mem_of_getElem? (i := 6) rfl)))), List.forall_mem_cons.mpr ⟨(List.mem_cons_of_mem _ (List.mem_append_left _ (List.mem_append_left _ (List.mem_of_getElem? (i := 12) rfl)))), List.forall_mem_cons.mpr ⟨(List.mem_cons_of_mem _ (List.mem_append_left _ (List.mem_append_left _ (List.mem_of_getElem? (i := 11) rfl)))), List.forall_mem_cons.mpr ⟨(List.mem_cons_of_mem _ (List.mem_append_left _ (List.mem_append_left _ (List.mem_of_getElem? (i := 9) rfl)))), List.forall_mem_cons.mpr ⟨(List.mem_cons_of_mem _ (List.mem_append_left _ (List.mem_append_left _ (List.mem_of_getElem? (i := 8) rfl)))), List.forall_mem_cons.mpr ⟨(List.mem_cons_of_mem _ (List.mem_append_left _ (List.mem_append_left _ (List.mem_of_getElem? (i := 0) rfl)))), fun _ h => absurd h List.not_mem_nil⟩⟩⟩⟩⟩⟩, fun _ h => (List.mem_cons_of_mem _ (List.mem_append_right _ h))⟩⟩) gw_wsX6_addsFigure
set_option maxRecDepth 20000 in
theorem gX6_goesOnWith_X6_addsFigure : GoodIn wsX6_goesOnWith (wsV RX6 59 RX6 yX6_addsFigure wsX6_addsFigure) := goodIn_app (goodIn_of _ (by decide +kernel)) ggX6_goesOnWith_X6_addsFigure
set_option maxRecDepth 20000 in
theorem gw_wsX6_endsNumberWith : wsX6_endsNumberWith.all goodWord = true := by decide +kernel
set_option maxRecDepth 20000 in
theorem ggX6_goesOnWith_X6_endsNumberWith : GoodIn wsX6_goesOnWith wsX6_endsNumberWith := goodIn_sub (List.forall_mem_cons.mpr ⟨(List.mem_cons_of_mem _ (List.mem_append_left _ (List.mem_append_right _ (List.mem_append_right _ (List.mem_append_right _ (List.mem_append_right _ (List.mem_of_getElem? (i := 17) rfl))))))), List.forall_mem_append.mpr ⟨List.forall_mem_cons.mpr ⟨(List.mem_cons_of_mem _ (List.mem_append_left _ (List.mem_append_left _ (List.mem_of_getElem? (i := 10) rfl)))), List.forall_mem_cons.mpr ⟨(List.mem_cons_of_mem _ (List.mem_append_left _ (List.mem_append_left _ (List.mem_of_getElem? (i := 11) rfl)))), List.forall_mem_cons.mpr ⟨(List.mem_cons_of_mem _ (List.mem_append_left _ (List.mem_append_left _ (List.mem_of_getElem? (i := 12) rfl)))), List.forall_mem_cons.mpr ⟨(List.mem_cons_of_mem _ (List.mem_append_left _ (List.mem_append_left _ (List.mem_of_getElem? (i := 0) rfl)))), fun _ h => absurd h List.not_mem_nil⟩⟩⟩⟩, fun _ h => (List.mem_cons_of_mem _ (List.mem_append_right _ h))⟩⟩) gw_wsX6_endsNumberWith
set_option maxRecDepth 20000 in
theorem gX6_goesOnWith_X6_endsNumberWith : GoodIn wsX6_goesOnWith (wsV RX6 63 RX6 yX6_endsNumberWith wsX6_endsNumberWith) := goodIn_app (goodIn_of _ (by decide +kernel)) ggX6_goesOnWith_X6_endsNumberWith
theorem dX6_goesOnWith_0 : decode cX6_goesOnWith 0 = .ok (.aload_n 0, 1) := by decide +kernel
theorem dX6_goesOnWith_1 : decode cX6_goesOnWith 1 = .ok (.getfield 32, 3) := by decide +kernel
theorem dX6_goesOnWith_4 : decode cX6_goesOnWith 4 = .ok (.tableswitch 74 0 3 #[32, 38, 44, 51], 32) := by decide +kernel
theorem dX6_goesOnWith_36 : decode cX6_goesOnWith 36 = .ok (.aload_n 0, 1) := by decide +kernel
theorem dX6_goesOnWith_37 : decode cX6_goesOnWith 37 = .ok (.iload_n 1, 1) := by decide +kernel
theorem dX6_goesOnWith_38 : decode cX6_goesOnWith 38 = .ok (.invokevirtual 53, 3) := by decide +kernel
theorem dX6_goesOnWith_41 : decode cX6_goesOnWith 41 = .ok (.ireturn, 1) := by decide +kernel
theorem dX6_goesOnWith_42 : decode cX6_goesOnWith 42 = .ok (.aload_n 0, 1) := by decide +kernel
theorem dX6_goesOnWith_43 : decode cX6_goesOnWith 43 = .ok (.iload_n 1, 1) := by decide +kernel
theorem dX6_goesOnWith_44 : decode cX6_goesOnWith 44 = .ok (.invokevirtual 56, 3) := by decide +kernel
theorem dX6_goesOnWith_47 : decode cX6_goesOnWith 47 = .ok (.ireturn, 1) := by decide +kernel
theorem dX6_goesOnWith_48 : decode cX6_goesOnWith 48 = .ok (.aload_n 0, 1) := by decide +kernel
theorem dX6_goesOnWith_49 : decode cX6_goesOnWith 49 = .ok (.iload_n 1, 1) := by decide +kernel
theorem dX6_goesOnWith_50 : decode cX6_goesOnWith 50 = .ok (.iconst 3, 1) := by decide +kernel
theorem dX6_goesOnWith_51 : decode cX6_goesOnWith 51 = .ok (.invokevirtual 59, 3) := by decide +kernel
theorem dX6_goesOnWith_54 : decode cX6_goesOnWith 54 = .ok (.ireturn, 1) := by decide +kernel
theorem dX6_goesOnWith_55 : decode cX6_goesOnWith 55 = .ok (.aload_n 0, 1) := by decide +kernel
theorem dX6_goesOnWith_56 : decode cX6_goesOnWith 56 = .ok (.iload_n 1, 1) := by decide +kernel
theorem dX6_goesOnWith_57 : decode cX6_goesOnWith 57 = .ok (.iconst 4, 1) := by decide +kernel
theorem dX6_goesOnWith_58 : decode cX6_goesOnWith 58 = .ok (.invokevirtual 59, 3) := by decide +kernel
theorem dX6_goesOnWith_61 : decode cX6_goesOnWith 61 = .ok (.ifCond .ne 11, 3) := by decide +kernel
theorem dX6_goesOnWith_64 : decode cX6_goesOnWith 64 = .ok (.aload_n 0, 1) := by decide +kernel
theorem dX6_goesOnWith_65 : decode cX6_goesOnWith 65 = .ok (.iload_n 1, 1) := by decide +kernel
theorem dX6_goesOnWith_66 : decode cX6_goesOnWith 66 = .ok (.invokevirtual 63, 3) := by decide +kernel
theorem dX6_goesOnWith_69 : decode cX6_goesOnWith 69 = .ok (.ifCond .eq 7, 3) := by decide +kernel
theorem dX6_goesOnWith_72 : decode cX6_goesOnWith 72 = .ok (.iconst 1, 1) := by decide +kernel
theorem dX6_goesOnWith_73 : decode cX6_goesOnWith 73 = .ok (.goto 4, 3) := by decide +kernel
theorem dX6_goesOnWith_76 : decode cX6_goesOnWith 76 = .ok (.iconst 0, 1) := by decide +kernel
theorem dX6_goesOnWith_77 : decode cX6_goesOnWith 77 = .ok (.ireturn, 1) := by decide +kernel
theorem dX6_goesOnWith_78 : decode cX6_goesOnWith 78 = .ok (.aload_n 0, 1) := by decide +kernel
theorem dX6_goesOnWith_79 : decode cX6_goesOnWith 79 = .ok (.iload_n 1, 1) := by decide +kernel
theorem dX6_goesOnWith_80 : decode cX6_goesOnWith 80 = .ok (.invokevirtual 63, 3) := by decide +kernel
theorem dX6_goesOnWith_83 : decode cX6_goesOnWith 83 = .ok (.ireturn, 1) := by decide +kernel
theorem dX6_endsNumber_0 : decode cX6_endsNumber 0 = .ok (.aload_n 0, 1) := by decide +kernel
theorem dX6_endsNumber_1 : decode cX6_endsNumber 1 = .ok (.getfield 32, 3) := by decide +kernel
theorem dX6_endsNumber_4 : decode cX6_endsNumber 4 = .ok (.iconst 3, 1) := by decide +kernel
theorem dX6_endsNumber_5 : decode cX6_endsNumber 5 = .ok (.if_icmp .eq 11, 3) := by decide +kernel
theorem dX6_endsNumber_8 : decode cX6_endsNumber 8 = .ok (.aload_n 0, 1) := by decide +kernel
theorem dX6_endsNumber_9 : decode cX6_endsNumber 9 = .ok (.getfield 32, 3) := by decide +kernel
theorem dX6_endsNumber_12 : decode cX6_endsNumber 12 = .ok (.iconst 4, 1) := by decide +kernel
theorem dX6_endsNumber_13 : decode cX6_endsNumber 13 = .ok (.if_icmp .ne 7, 3) := by decide +kernel
theorem dX6_endsNumber_16 : decode cX6_endsNumber 16 = .ok (.iconst 1, 1) := by decide +kernel
theorem dX6_endsNumber_17 : decode cX6_endsNumber 17 = .ok (.goto 4, 3) := by decide +kernel
theorem dX6_endsNumber_20 : decode cX6_endsNumber 20 = .ok (.iconst 0, 1) := by decide +kernel
theorem dX6_endsNumber_21 : decode cX6_endsNumber 21 = .ok (.ireturn, 1) := by decide +kernel
set_option maxRecDepth 20000 in
theorem gw_wsJ0_indexOf_0f7a4 : wsJ0_indexOf_0f7a4.all goodWord = true := by decide +kernel
set_option maxRecDepth 20000 in
theorem ggX6_beginsAct_J0_indexOf_0f7a4 : GoodIn wsX6_beginsAct wsJ0_indexOf_0f7a4 := goodIn_sub (List.forall_mem_cons.mpr ⟨(List.mem_cons_of_mem _ (List.mem_append_left _ (List.mem_append_left _ (List.mem_of_getElem? (i := 12) rfl)))), List.forall_mem_append.mpr ⟨List.forall_mem_cons.mpr ⟨(List.mem_cons_of_mem _ (List.mem_append_left _ (List.mem_append_left _ (List.mem_of_getElem? (i := 13) rfl)))), List.forall_mem_cons.mpr ⟨(List.mem_cons_of_mem _ (List.mem_append_left _ (List.mem_append_left _ (List.mem_of_getElem? (i := 14) rfl)))), List.forall_mem_cons.mpr ⟨(List.mem_cons_of_mem _ (List.mem_append_left _ (List.mem_append_left _ (List.mem_of_getElem? (i := 15) rfl)))), List.forall_mem_cons.mpr ⟨(List.mem_cons_of_mem _ (List.mem_append_left _ (List.mem_append_left _ (List.mem_of_getElem? (i := 11) rfl)))), List.forall_mem_cons.mpr ⟨(List.mem_cons_of_mem _ (List.mem_append_left _ (List.mem_append_left _ (List.mem_of_getElem? (i := 16) rfl)))), List.forall_mem_cons.mpr ⟨(List.mem_cons_of_mem _ (List.mem_append_left _ (List.mem_append_left _ (List.mem_of_getElem? (i := 17) rfl)))), List.forall_mem_cons.mpr ⟨(List.mem_cons_of_mem _ (List.mem_append_left _ (List.mem_append_left _ (List.mem_of_getElem? (i := 18) rfl)))), List.forall_mem_cons.mpr ⟨(List.mem_cons_of_mem _ (List.mem_append_left _ (List.mem_append_left _ (List.mem_of_getElem? (i := 19) rfl)))), List.forall_mem_cons.mpr ⟨(List.mem_cons_of_mem _ (List.mem_append_left _ (List.mem_append_left _ (List.mem_of_getElem? (i := 20) rfl)))), List.forall_mem_cons.mpr ⟨(List.mem_cons_of_mem _ (List.mem_append_left _ (List.mem_append_left _ (List.mem_of_getElem? (i := 21) rfl)))), List.forall_mem_cons.mpr ⟨(List.mem_cons_of_mem _ (List.mem_append_left _ (List.mem_append_left _ (List.mem_of_getElem? (i := 22) rfl)))), List.forall_mem_cons.mpr ⟨(List.mem_cons_of_mem _ (List.mem_append_left _ (List.mem_append_left _ (List.mem_of_getElem? (i := 23) rfl)))), List.forall_mem_cons.mpr ⟨(List.mem_cons_of_mem _ (List.mem_append_left _ (List.mem_append_right _ (List.mem_append_left _ (List.mem_of_getElem? (i := 0) rfl))))), List.forall_mem_cons.mpr ⟨(List.mem_cons_of_mem _ (List.mem_append_left _ (List.mem_append_right _ (List.mem_append_left _ (List.mem_of_getElem? (i := 1) rfl))))), List.forall_mem_cons.mpr ⟨(List.mem_cons_of_mem _ (List.mem_append_left _ (List.mem_append_right _ (List.mem_append_left _ (List.mem_of_getElem? (i := 2) rfl))))), List.forall_mem_cons.mpr ⟨(List.mem_cons_of_mem _ (List.mem_append_left _ (List.mem_append_right _ (List.mem_append_left _ (List.mem_of_getElem? (i := 3) rfl))))), List.forall_mem_cons.mpr ⟨(List.mem_cons_of_mem _ (List.mem_append_left _ (List.mem_append_right _ (List.mem_append_left _ (List.mem_of_getElem? (i := 4) rfl))))), List.forall_mem_cons.mpr ⟨(List.mem_cons_of_mem _ (List.mem_append_left _ (List.mem_append_right _ (List.mem_append_left _ (List.mem_of_getElem? (i := 5) rfl))))), List.forall_mem_cons.mpr ⟨(List.mem_cons_of_mem _ (List.mem_append_left _ (List.mem_append_right _ (List.mem_append_left _ (List.mem_of_getElem? (i := 6) rfl))))), List.forall_mem_cons.mpr ⟨(List.mem_cons_of_mem _ (List.mem_append_left _ (List.mem_append_right _ (List.mem_append_left _ (List.mem_of_getElem? (i := 7) rfl))))), List.forall_mem_cons.mpr ⟨(List.mem_cons_of_mem _ (List.mem_append_left _ (List.mem_append_right _ (List.mem_append_left _ (List.mem_of_getElem? (i := 8) rfl))))), List.forall_mem_cons.mpr ⟨(List.mem_cons_of_mem _ (List.mem_append_left _ (List.mem_append_right _ (List.mem_append_left _ (List.mem_of_getElem? (i := 9) rfl))))), List.forall_mem_cons.mpr ⟨(List.mem_cons_of_mem _ (List.mem_append_left _ (List.mem_append_right _ (List.mem_append_left _ (List.mem_of_getElem? (i := 10) rfl))))), List.forall_mem_cons.mpr ⟨(List.mem_cons_of_mem _ (List.mem_append_left _ (List.mem_append_right _ (List.mem_append_left _ (List.mem_of_getElem? (i := 11) rfl))))), fun _ h => absurd h List.not_mem_nil⟩⟩⟩⟩⟩⟩⟩⟩⟩⟩⟩⟩⟩⟩⟩⟩⟩⟩⟩⟩⟩⟩⟩⟩, List.forall_mem_append.mpr ⟨List.forall_mem_cons.mpr ⟨(List.mem_cons_of_mem _ (List.mem_append_left _ (List.mem_append_right _ (List.mem_append_left _ (List.mem_of_getElem? (i := 12) rfl))))), List.forall_mem_cons.mpr ⟨(List.mem_cons_of_mem _ (List.mem_append_left _ (List.mem_append_right _ (List.mem_append_left _ (List.mem_of_getElem? (i := 13) rfl))))), List.forall_mem_cons.mpr ⟨(List.mem_cons_of_mem _ (List.mem_append_left _ (List.mem_append_right _ (List.mem_append_left _ (List.mem_of_getElem? (i := 14) rfl))))), List.forall_mem_cons.mpr ⟨(List.mem_cons_of_mem _ (List.mem_append_left _ (List.mem_append_right _ (List.mem_append_left _ (List.mem_of_getElem? (i := 15) rfl))))), List.forall_mem_cons.mpr ⟨(List.mem_cons_of_mem _ (List.mem_append_left _ (List.mem_append_right _ (List.mem_append_left _ (List.mem_of_getElem? (i := 16) rfl))))), List.forall_mem_cons.mpr ⟨(List.mem_cons_of_mem _ (List.mem_append_left _ (List.mem_append_right _ (List.mem_append_left _ (List.mem_of_getElem? (i := 17) rfl))))), List.forall_mem_cons.mpr ⟨(List.mem_cons_of_mem _ (List.mem_append_left _ (List.mem_append_right _ (List.mem_append_left _ (List.mem_of_getElem? (i := 18) rfl))))), List.forall_mem_cons.mpr ⟨(List.mem_cons_of_mem _ (List.mem_append_left _ (List.mem_append_right _ (List.mem_append_left _ (List.mem_of_getElem? (i := 19) rfl))))), List.forall_mem_cons.mpr ⟨(List.mem_cons_of_mem _ (List.mem_append_left _ (List.mem_append_right _ (List.mem_append_left _ (List.mem_of_getElem? (i := 20) rfl))))), List.forall_mem_cons.mpr ⟨(List.mem_cons_of_mem _ (List.mem_append_left _ (List.mem_append_right _ (List.mem_append_left _ (List.mem_of_getElem? (i := 21) rfl))))), List.forall_mem_cons.mpr ⟨(List.mem_cons_of_mem _ (List.mem_append_left _ (List.mem_append_right _ (List.mem_append_left _ (List.mem_of_getElem? (i := 22) rfl))))), List.forall_mem_cons.mpr ⟨(List.mem_cons_of_mem _ (List.mem_append_left _ (List.mem_append_right _ (List.mem_append_left _ (List.mem_of_getElem? (i := 23) rfl))))), List.forall_mem_cons.mpr ⟨(List.mem_cons_of_mem _ (List.mem_append_left _ (List.mem_append_right _ (List.mem_append_right _ (List.mem_append_left _ (List.mem_of_getElem? (i := 0) rfl)))))), List.forall_mem_cons.mpr ⟨(List.mem_cons_of_mem _ (List.mem_append_left _ (List.mem_append_right _ (List.mem_append_right _ (List.mem_append_left _ (List.mem_of_getElem? (i := 1) rfl)))))), List.forall_mem_cons.mpr ⟨(List.mem_cons_of_mem _ (List.mem_append_left _ (List.mem_append_right _ (List.mem_append_right _ (List.mem_append_left _ (List.mem_of_getElem? (i := 2) rfl)))))), List.forall_mem_cons.mpr ⟨(List.mem_cons_of_mem _ (List.mem_append_left _ (List.mem_append_right _ (List.mem_append_right _ (List.mem_append_left _ (List.mem_of_getElem? (i := 3) rfl)))))), List.forall_mem_cons.mpr ⟨(List.mem_cons_of_mem _ (List.mem_append_left _ (List.mem_append_right _ (List.mem_append_right _ (List.mem_append_left _ (List.mem_of_getElem? (i := 4) rfl)))))), List.forall_mem_cons.mpr ⟨(List.mem_cons_of_mem _ (List.mem_append_left _ (List.mem_append_right _ (List.mem_append_right _ (List.mem_append_left _ (List.mem_of_getElem? (i := 5) rfl)))))), List.forall_mem_cons.mpr ⟨(List.mem_cons_of_mem _ (List.mem_append_left _ (List.mem_append_right _ (List.mem_append_right _ (List.mem_append_left _ (List.mem_of_getElem? (i := 6) rfl)))))), List.forall_mem_cons.mpr ⟨(List.mem_cons_of_mem _ (List.mem_append_left _ (List.mem_append_right _ (List.mem_append_right _ (List.mem_append_left _ (List.mem_of_getElem? (i := 7) rfl)))))), List.forall_mem_cons.mpr ⟨(List.mem_cons_of_mem _ (List.mem_append_left _ (List.mem_append_right _ (List.mem_append_right _ (List.mem_append_left _ (List.mem_of_getElem? (i := 8) rfl)))))), List.forall_mem_cons.mpr ⟨(List.mem_cons_of_mem _ (List.mem_append_left _ (List.mem_append_right _ (List.mem_append_right _ (List.mem_append_left _ (List.mem_of_getElem? (i := 9) rfl)))))), List.forall_mem_cons.mpr ⟨(List.mem_cons_of_mem _ (List.mem_append_left _ (List.mem_append_right _ (List.mem_append_right _ (List.mem_append_left _ (List.mem_of_getElem? (i := 10) rfl)))))), List.forall_mem_cons.mpr ⟨(List.mem_cons_of_mem _ (List.mem_append_left _ (List.mem_append_right _ (List.mem_append_right _ (List.mem_append_left _ (List.mem_of_getElem? (i := 11) rfl)))))), fun _ h => absurd h List.not_mem_nil⟩⟩⟩⟩⟩⟩⟩⟩⟩⟩⟩⟩⟩⟩⟩⟩⟩⟩⟩⟩⟩⟩⟩⟩, List.forall_mem_append.mpr ⟨List.forall_mem_cons.mpr ⟨(List.mem_cons_of_mem _ (List.mem_append_left _ (List.mem_append_right _ (List.mem_append_right _ (List.mem_append_left _ (List.mem_of_getElem? (i := 12) rfl)))))), List.forall_mem_cons.mpr ⟨(List.mem_cons_of_mem _ (List.mem_append_left _ (List.mem_append_right _ (List.mem_append_right _ (List.mem_append_left _ (List.mem_of_getElem? (i := 13) rfl)))))), List.forall_mem_cons.mpr ⟨(List.mem_cons_of_mem _ (List.mem_append_left _ (List.mem_append_right _ (List.mem_append_right _ (List.mem_append_left _ (List.mem_of_getElem? (i := 14) rfl)))))), List.forall_mem_cons.mpr ⟨(List.mem_cons_of_mem _ (List.mem_append_left _ (List.mem_append_right _ (List.mem_append_right _ (List.mem_append_left _ (List.mem_of_getElem? (i := 15) rfl)))))), List.forall_mem_cons.mpr ⟨(List.mem_cons_of_mem _ (List.mem_append_left _ (List.mem_append_right _ (List.mem_append_right _ (List.mem_append_left _ (List.mem_of_getElem? (i := 16) rfl)))))), List.forall_mem_cons.mpr ⟨(List.mem_cons_of_mem _ (List.mem_append_left _ (List.mem_append_right _ (List.mem_append_right _ (List.mem_append_left _ (List.mem_of_getElem? (i := 17) rfl)))))), List.forall_mem_cons.mpr ⟨(List.mem_cons_of_mem _ (List.mem_append_left _ (List.mem_append_right _ (List.mem_append_right _ (List.mem_append_left _ (List.mem_of_getElem? (i := 18) rfl)))))), List.forall_mem_cons.mpr ⟨(List.mem_cons_of_mem _ (List.mem_append_left _ (List.mem_append_right _ (List.mem_append_right _ (List.mem_append_left _ (List.mem_of_getElem? (i := 19) rfl)))))), List.forall_mem_cons.mpr ⟨(List.mem_cons_of_mem _ (List.mem_append_left _ (List.mem_append_right _ (List.mem_append_right _ (List.mem_append_left _ (List.mem_of_getElem? (i := 20) rfl)))))), List.forall_mem_cons.mpr ⟨(List.mem_cons_of_mem _ (List.mem_append_left _ (List.mem_append_right _ (List.mem_append_right _ (List.mem_append_left _ (List.mem_of_getElem? (i := 21) rfl)))))), List.forall_mem_cons.mpr ⟨(List.mem_cons_of_mem _ (List.mem_append_left _ (List.mem_append_right _ (List.mem_append_right _ (List.mem_append_left _ (List.mem_of_getElem? (i := 22) rfl)))))), List.forall_mem_cons.mpr ⟨(List.mem_cons_of_mem _ (List.mem_append_left _ (List.mem_append_right _ (List.mem_append_right _ (List.mem_append_left _ (List.mem_of_getElem? (i := 23) rfl)))))), List.forall_mem_cons.mpr ⟨(List.mem_cons_of_mem _ (List.mem_append_left _ (List.mem_append_right _ (List.mem_append_right _ (List.mem_append_right _ (List.mem_append_left _ (List.mem_of_getElem? (i := 0) rfl))))))), List.forall_mem_cons.mpr ⟨(List.mem_cons_of_mem _ (List.mem_append_left _ (List.mem_append_right _ (List.mem_append_right _ (List.mem_append_right _ (List.mem_append_left _ (List.mem_of_getElem? (i := 1) rfl))))))), List.forall_mem_cons.mpr ⟨(List.mem_cons_of_mem _ (List.mem_append_left _ (List.mem_append_right _ (List.mem_append_right _ (List.mem_append_right _ (List.mem_append_left _ (List.mem_of_getElem? (i := 2) rfl))))))), List.forall_mem_cons.mpr ⟨(List.mem_cons_of_mem _ (List.mem_append_left _ (List.mem_append_right _ (List.mem_append_right _ (List.mem_append_right _ (List.mem_append_left _ (List.mem_of_getElem? (i := 3) rfl))))))), List.forall_mem_cons.mpr ⟨(List.mem_cons_of_mem _ (List.mem_append_left _ (List.mem_append_right _ (List.mem_append_right _ (List.mem_append_right _ (List.mem_append_left _ (List.mem_of_getElem? (i := 4) rfl))))))), List.forall_mem_cons.mpr ⟨(List.mem_cons_of_mem _ (List.mem_append_left _ (List.mem_append_right _ (List.mem_append_right _ (List.mem_append_right _ (List.mem_append_left _ (List.mem_of_getElem? (i := 5) rfl))))))), List.forall_mem_cons.mpr ⟨(List.mem_cons_of_mem _ (List.mem_append_left _ (List.mem_append_right _ (List.mem_append_right _ (List.mem_append_right _ (List.mem_append_left _ (List.mem_of_getElem? (i := 6) rfl))))))), List.forall_mem_cons.mpr ⟨(List.mem_cons_of_mem _ (List.mem_append_left _ (List.mem_append_right _ (List.mem_append_right _ (List.mem_append_right _ (List.mem_append_left _ (List.mem_of_getElem? (i := 7) rfl))))))), List.forall_mem_cons.mpr ⟨(List.mem_cons_of_mem _ (List.mem_append_left _ (List.mem_append_right _ (List.mem_append_right _ (List.mem_append_right _ (List.mem_append_left _ (List.mem_of_getElem? (i := 8) rfl))))))), List.forall_mem_cons.mpr ⟨(List.mem_cons_of_mem _ (List.mem_append_left _ (List.mem_append_right _ (List.mem_append_right _ (List.mem_append_right _ (List.mem_append_left _ (List.mem_of_getElem? (i := 9) rfl))))))), List.forall_mem_cons.mpr ⟨(List.mem_cons_of_mem _ (List.mem_append_left _ (List.mem_append_right _ (List.mem_append_right _ (List.mem_append_right _ (List.mem_append_left _ (List.mem_of_getElem? (i := 10) rfl))))))), List.forall_mem_cons.mpr ⟨(List.mem_cons_of_mem _ (List.mem_append_left _ (List.mem_append_right _ (List.mem_append_right _ (List.mem_append_right _ (List.mem_append_left _ (List.mem_of_getElem? (i := 11) rfl))))))), fun _ h => absurd h List.not_mem_nil⟩⟩⟩⟩⟩⟩⟩⟩⟩⟩⟩⟩⟩⟩⟩⟩⟩⟩⟩⟩⟩⟩⟩⟩, List.forall_mem_cons.mpr ⟨(List.mem_cons_of_mem _ (List.mem_append_left _ (List.mem_append_right _ (List.mem_append_right _ (List.mem_append_right _ (List.mem_append_left _ (List.mem_of_getElem? (i := 12) rfl))))))), List.forall_mem_cons.mpr ⟨(List.mem_cons_of_mem _ (List.mem_append_left _ (List.mem_append_right _ (List.mem_append_right _ (List.mem_append_right _ (List.mem_append_left _ (List.mem_of_getElem? (i := 13) rfl))))))), List.forall_mem_cons.mpr ⟨(List.mem_cons_of_mem _ (List.mem_append_left _ (List.mem_append_right _ (List.mem_append_right _ (List.mem_append_right _ (List.mem_append_left _ (List.mem_of_getElem? (i := 14) rfl))))))), List.forall_mem_cons.mpr ⟨(List.mem_cons_of_mem _ (List.mem_append_left _ (List.mem_append_right _ (List.mem_append_right _ (List.mem_append_right _ (List.mem_append_left _ (List.mem_of_getElem? (i := 15) rfl))))))), List.forall_mem_cons.mpr ⟨(List.mem_cons_of_mem _ (List.mem_append_left _ (List.mem_append_right _ (List.mem_append_right _ (List.mem_append_right _ (List.mem_append_left _ (List.mem_of_getElem? (i := 16) rfl))))))), List.forall_mem_cons.mpr ⟨(List.mem_cons_of_mem _ (List.mem_append_left _ (List.mem_append_right _ (List.mem_append_right _ (List.mem_append_right _ (List.mem_append_left _ (List.mem_of_getElem? (i := 17) rfl))))))), List.forall_mem_cons.mpr ⟨(List.mem_cons_of_mem _ (List.mem_append_left _ (List.mem_append_right _ (List.mem_append_right _ (List.mem_append_right _ (List.mem_append_left _ (List.mem_of_getElem? (i := 18) rfl))))))), List.forall_mem_cons.mpr ⟨(List.mem_cons_of_mem _ (List.mem_append_left _ (List.mem_append_right _ (List.mem_append_right _ (List.mem_append_right _ (List.mem_append_left _ (List.mem_of_getElem? (i := 19) rfl))))))), List.forall_mem_cons.mpr ⟨(List.mem_cons_of_mem _ (List.mem_append_left _ (List.mem_append_right _ (List.mem_append_right _ (List.mem_append_right _ (List.mem_append_left _ (List.mem_of_getElem? (i := 20) rfl))))))), List.forall_mem_cons.mpr ⟨(List.mem_cons_of_mem _ (List.mem_append_left _ (List.mem_append_right _ (List.mem_append_right _ (List.mem_append_right _ (List.mem_append_left _ (List.mem_of_getElem? (i := 21) rfl))))))), List.forall_mem_cons.mpr ⟨(List.mem_cons_of_mem _ (List.mem_append_left _ (List.mem_append_right _ (List.mem_append_right _ (List.mem_append_right _ (List.mem_append_left _ (List.mem_of_getElem? (i := 22) rfl))))))), List.forall_mem_cons.mpr ⟨(List.mem_cons_of_mem _ (List.mem_append_left _ (List.mem_append_right _ (List.mem_append_right _ (List.mem_append_right _ (List.mem_append_left _ (List.mem_of_getElem? (i := 23) rfl))))))), List.forall_mem_cons.mpr ⟨(List.mem_cons_of_mem _ (List.mem_append_left _ (List.mem_append_right _ (List.mem_append_right _ (List.mem_append_right _ (List.mem_append_right _ (List.mem_of_getElem? (i := 0) rfl))))))), fun _ h => absurd h List.not_mem_nil⟩⟩⟩⟩⟩⟩⟩⟩⟩⟩⟩⟩⟩⟩⟩⟩⟩) gw_wsJ0_indexOf_0f7a4
set_option maxRecDepth 20000 in
theorem gX6_beginsAct_J0_indexOf_0f7a4 : GoodIn wsX6_beginsAct (wsV RX6 68 RJ0 yJ0_indexOf_0f7a4 wsJ0_indexOf_0f7a4) := goodIn_app (goodIn_of _ (by decide +kernel)) ggX6_beginsAct_J0_indexOf_0f7a4
theorem dX6_beginsAct_0 : decode cX6_beginsAct 0 = .ok (.ldc 66, 2) := by decide +kernel
theorem dX6_beginsAct_2 : decode cX6_beginsAct 2 = .ok (.iload_n 1, 1) := by decide +kernel
theorem dX6_beginsAct_3 : decode cX6_beginsAct 3 = .ok (.i2c, 1) := by decide +kernel
theorem dX6_beginsAct_4 : decode cX6_beginsAct 4 = .ok (.invokevirtual 68, 3) := by decide +kernel
theorem dX6_beginsAct_7 : decode cX6_beginsAct 7 = .ok (.istore_n 2, 1) := by decide +kernel
theorem dX6_beginsAct_8 : decode cX6_beginsAct 8 = .ok (.iload_n 2, 1) := by decide +kernel
theorem dX6_beginsAct_9 : decode cX6_beginsAct 9 = .ok (.ifCond .lt 19, 3) := by decide +kernel
theorem dX6_beginsAct_12 : decode cX6_beginsAct 12 = .ok (.aload_n 0, 1) := by decide +kernel
theorem dX6_beginsAct_13 : decode cX6_beginsAct 13 = .ok (.getfield 29, 3) := by decide +kernel
theorem dX6_beginsAct_16 : decode cX6_beginsAct 16 = .ok (.ifCond .lt 12, 3) := by decide +kernel
theorem dX6_beginsAct_19 : decode cX6_beginsAct 19 = .ok (.aload_n 0, 1) := by decide +kernel
theorem dX6_beginsAct_20 : decode cX6_beginsAct 20 = .ok (.getfield 29, 3) := by decide +kernel
theorem dX6_beginsAct_23 : decode cX6_beginsAct 23 = .ok (.bipush 80, 2) := by decide +kernel
theorem dX6_beginsAct_25 : decode cX6_beginsAct 25 = .ok (.if_icmp .lt 5, 3) := by decide +kernel
theorem dX6_beginsAct_28 : decode cX6_beginsAct 28 = .ok (.iconst 0, 1) := by decide +kernel
theorem dX6_beginsAct_29 : decode cX6_beginsAct 29 = .ok (.ireturn, 1) := by decide +kernel
theorem dX6_beginsAct_30 : decode cX6_beginsAct 30 = .ok (.aload_n 0, 1) := by decide +kernel
theorem dX6_beginsAct_31 : decode cX6_beginsAct 31 = .ok (.getfield 19, 3) := by decide +kernel
theorem dX6_beginsAct_34 : decode cX6_beginsAct 34 = .ok (.aload_n 0, 1) := by decide +kernel
theorem dX6_beginsAct_35 : decode cX6_beginsAct 35 = .ok (.getfield 29, 3) := by decide +kernel
theorem dX6_beginsAct_38 : decode cX6_beginsAct 38 = .ok (.iload_n 2, 1) := by decide +kernel
theorem dX6_beginsAct_39 : decode cX6_beginsAct 39 = .ok (.iastore, 1) := by decide +kernel
theorem dX6_beginsAct_40 : decode cX6_beginsAct 40 = .ok (.aload_n 0, 1) := by decide +kernel
theorem dX6_beginsAct_41 : decode cX6_beginsAct 41 = .ok (.getfield 23, 3) := by decide +kernel
theorem dX6_beginsAct_44 : decode cX6_beginsAct 44 = .ok (.aload_n 0, 1) := by decide +kernel
theorem dX6_beginsAct_45 : decode cX6_beginsAct 45 = .ok (.getfield 29, 3) := by decide +kernel
theorem dX6_beginsAct_48 : decode cX6_beginsAct 48 = .ok (.iconst 0, 1) := by decide +kernel
theorem dX6_beginsAct_49 : decode cX6_beginsAct 49 = .ok (.iastore, 1) := by decide +kernel
theorem dX6_beginsAct_50 : decode cX6_beginsAct 50 = .ok (.aload_n 0, 1) := by decide +kernel
theorem dX6_beginsAct_51 : decode cX6_beginsAct 51 = .ok (.getfield 26, 3) := by decide +kernel
theorem dX6_beginsAct_54 : decode cX6_beginsAct 54 = .ok (.aload_n 0, 1) := by decide +kernel
theorem dX6_beginsAct_55 : decode cX6_beginsAct 55 = .ok (.getfield 29, 3) := by decide +kernel
theorem dX6_beginsAct_58 : decode cX6_beginsAct 58 = .ok (.iconst 0, 1) := by decide +kernel
theorem dX6_beginsAct_59 : decode cX6_beginsAct 59 = .ok (.iastore, 1) := by decide +kernel
theorem dX6_beginsAct_60 : decode cX6_beginsAct 60 = .ok (.aload_n 0, 1) := by decide +kernel
theorem dX6_beginsAct_61 : decode cX6_beginsAct 61 = .ok (.dup, 1) := by decide +kernel
theorem dX6_beginsAct_62 : decode cX6_beginsAct 62 = .ok (.getfield 29, 3) := by decide +kernel
theorem dX6_beginsAct_65 : decode cX6_beginsAct 65 = .ok (.iconst 1, 1) := by decide +kernel
theorem dX6_beginsAct_66 : decode cX6_beginsAct 66 = .ok (.iadd, 1) := by decide +kernel
theorem dX6_beginsAct_67 : decode cX6_beginsAct 67 = .ok (.putfield 29, 3) := by decide +kernel
theorem dX6_beginsAct_70 : decode cX6_beginsAct 70 = .ok (.aload_n 0, 1) := by decide +kernel
theorem dX6_beginsAct_71 : decode cX6_beginsAct 71 = .ok (.iload_n 2, 1) := by decide +kernel
theorem dX6_beginsAct_72 : decode cX6_beginsAct 72 = .ok (.iconst 2, 1) := by decide +kernel
theorem dX6_beginsAct_73 : decode cX6_beginsAct 73 = .ok (.if_icmp .eq 9, 3) := by decide +kernel
theorem dX6_beginsAct_76 : decode cX6_beginsAct 76 = .ok (.iload_n 2, 1) := by decide +kernel
theorem dX6_beginsAct_77 : decode cX6_beginsAct 77 = .ok (.bipush 8, 2) := by decide +kernel
theorem dX6_beginsAct_79 : decode cX6_beginsAct 79 = .ok (.if_icmp .ne 7, 3) := by decide +kernel
theorem dX6_beginsAct_82 : decode cX6_beginsAct 82 = .ok (.iconst 1, 1) := by decide +kernel
theorem dX6_beginsAct_83 : decode cX6_beginsAct 83 = .ok (.goto 4, 3) := by decide +kernel
theorem dX6_beginsAct_86 : decode cX6_beginsAct 86 = .ok (.iconst 0, 1) := by decide +kernel
theorem dX6_beginsAct_87 : decode cX6_beginsAct 87 = .ok (.putfield 35, 3) := by decide +kernel
theorem dX6_beginsAct_90 : decode cX6_beginsAct 90 = .ok (.aload_n 0, 1) := by decide +kernel
theorem dX6_beginsAct_91 : decode cX6_beginsAct 91 = .ok (.iconst 0, 1) := by decide +kernel
theorem dX6_beginsAct_92 : decode cX6_beginsAct 92 = .ok (.putfield 38, 3) := by decide +kernel
theorem dX6_beginsAct_95 : decode cX6_beginsAct 95 = .ok (.aload_n 0, 1) := by decide +kernel
theorem dX6_beginsAct_96 : decode cX6_beginsAct 96 = .ok (.iconst 0, 1) := by decide +kernel
theorem dX6_beginsAct_97 : decode cX6_beginsAct 97 = .ok (.putfield 42, 3) := by decide +kernel
theorem dX6_beginsAct_100 : decode cX6_beginsAct 100 = .ok (.aload_n 0, 1) := by decide +kernel
theorem dX6_beginsAct_101 : decode cX6_beginsAct 101 = .ok (.iconst 1, 1) := by decide +kernel
theorem dX6_beginsAct_102 : decode cX6_beginsAct 102 = .ok (.putfield 32, 3) := by decide +kernel
theorem dX6_beginsAct_105 : decode cX6_beginsAct 105 = .ok (.iconst 1, 1) := by decide +kernel
theorem dX6_beginsAct_106 : decode cX6_beginsAct 106 = .ok (.ireturn, 1) := by decide +kernel
set_option maxRecDepth 20000 in
theorem ggX6_beginsNumber_X6_addsFigure : GoodIn wsX6_beginsNumber wsX6_addsFigure := goodIn_sub (List.forall_mem_cons.mpr ⟨(List.mem_cons_of_mem _ (List.mem_append_left _ (List.mem_of_getElem? (i := 6) rfl))), List.forall_mem_append.mpr ⟨List.forall_mem_cons.mpr ⟨(List.mem_cons_of_mem _ (List.mem_append_left _ (List.mem_of_getElem? (i := 7) rfl))), List.forall_mem_cons.mpr ⟨(List.mem_cons_of_mem _ (List.mem_append_left _ (List.mem_of_getElem? (i := 0) rfl))), List.forall_mem_cons.mpr ⟨(List.mem_cons_of_mem _ (List.mem_append_left _ (List.mem_of_getElem? (i := 8) rfl))), List.forall_mem_cons.mpr ⟨(List.mem_cons_of_mem _ (List.mem_append_left _ (List.mem_of_getElem? (i := 9) rfl))), List.forall_mem_cons.mpr ⟨(List.mem_cons_of_mem _ (List.mem_append_left _ (List.mem_of_getElem? (i := 10) rfl))), List.forall_mem_cons.mpr ⟨(List.mem_cons_of_mem _ (List.mem_append_left _ (List.mem_of_getElem? (i := 1) rfl))), fun _ h => absurd h List.not_mem_nil⟩⟩⟩⟩⟩⟩, fun _ h => (List.mem_cons_of_mem _ (List.mem_append_right _ h))⟩⟩) gw_wsX6_addsFigure
set_option maxRecDepth 20000 in
theorem gX6_beginsNumber_X6_addsFigure : GoodIn wsX6_beginsNumber (wsV RX6 59 RX6 yX6_addsFigure wsX6_addsFigure) := goodIn_app (goodIn_of _ (by decide +kernel)) ggX6_beginsNumber_X6_addsFigure
theorem dX6_beginsNumber_0 : decode cX6_beginsNumber 0 = .ok (.iload_n 1, 1) := by decide +kernel
theorem dX6_beginsNumber_1 : decode cX6_beginsNumber 1 = .ok (.bipush 45, 2) := by decide +kernel
theorem dX6_beginsNumber_3 : decode cX6_beginsNumber 3 = .ok (.if_icmp .ne 15, 3) := by decide +kernel
theorem dX6_beginsNumber_6 : decode cX6_beginsNumber 6 = .ok (.aload_n 0, 1) := by decide +kernel
theorem dX6_beginsNumber_7 : decode cX6_beginsNumber 7 = .ok (.iconst 1, 1) := by decide +kernel
theorem dX6_beginsNumber_8 : decode cX6_beginsNumber 8 = .ok (.putfield 42, 3) := by decide +kernel
theorem dX6_beginsNumber_11 : decode cX6_beginsNumber 11 = .ok (.aload_n 0, 1) := by decide +kernel
theorem dX6_beginsNumber_12 : decode cX6_beginsNumber 12 = .ok (.iconst 2, 1) := by decide +kernel
theorem dX6_beginsNumber_13 : decode cX6_beginsNumber 13 = .ok (.putfield 32, 3) := by decide +kernel
theorem dX6_beginsNumber_16 : decode cX6_beginsNumber 16 = .ok (.iconst 1, 1) := by decide +kernel
theorem dX6_beginsNumber_17 : decode cX6_beginsNumber 17 = .ok (.ireturn, 1) := by decide +kernel
theorem dX6_beginsNumber_18 : decode cX6_beginsNumber 18 = .ok (.aload_n 0, 1) := by decide +kernel
theorem dX6_beginsNumber_19 : decode cX6_beginsNumber 19 = .ok (.iload_n 1, 1) := by decide +kernel
theorem dX6_beginsNumber_20 : decode cX6_beginsNumber 20 = .ok (.iconst 3, 1) := by decide +kernel
theorem dX6_beginsNumber_21 : decode cX6_beginsNumber 21 = .ok (.invokevirtual 59, 3) := by decide +kernel
theorem dX6_beginsNumber_24 : decode cX6_beginsNumber 24 = .ok (.ireturn, 1) := by decide +kernel
theorem dX6_addsFigure_0 : decode cX6_addsFigure 0 = .ok (.aload_n 0, 1) := by decide +kernel
theorem dX6_addsFigure_1 : decode cX6_addsFigure 1 = .ok (.getfield 29, 3) := by decide +kernel
theorem dX6_addsFigure_4 : decode cX6_addsFigure 4 = .ok (.iconst 1, 1) := by decide +kernel
theorem dX6_addsFigure_5 : decode cX6_addsFigure 5 = .ok (.isub, 1) := by decide +kernel
theorem dX6_addsFigure_6 : decode cX6_addsFigure 6 = .ok (.istore_n 3, 1) := by decide +kernel
theorem dX6_addsFigure_7 : decode cX6_addsFigure 7 = .ok (.iload_n 1, 1) := by decide +kernel
theorem dX6_addsFigure_8 : decode cX6_addsFigure 8 = .ok (.bipush 48, 2) := by decide +kernel
theorem dX6_addsFigure_10 : decode cX6_addsFigure 10 = .ok (.if_icmp .lt 19, 3) := by decide +kernel
theorem dX6_addsFigure_13 : decode cX6_addsFigure 13 = .ok (.iload_n 1, 1) := by decide +kernel
theorem dX6_addsFigure_14 : decode cX6_addsFigure 14 = .ok (.bipush 57, 2) := by decide +kernel
theorem dX6_addsFigure_16 : decode cX6_addsFigure 16 = .ok (.if_icmp .gt 13, 3) := by decide +kernel
theorem dX6_addsFigure_19 : decode cX6_addsFigure 19 = .ok (.iload_n 3, 1) := by decide +kernel
theorem dX6_addsFigure_20 : decode cX6_addsFigure 20 = .ok (.ifCond .lt 9, 3) := by decide +kernel
theorem dX6_addsFigure_23 : decode cX6_addsFigure 23 = .ok (.iload_n 3, 1) := by decide +kernel
theorem dX6_addsFigure_24 : decode cX6_addsFigure 24 = .ok (.bipush 80, 2) := by decide +kernel
theorem dX6_addsFigure_26 : decode cX6_addsFigure 26 = .ok (.if_icmp .lt 5, 3) := by decide +kernel
theorem dX6_addsFigure_29 : decode cX6_addsFigure 29 = .ok (.iconst 0, 1) := by decide +kernel
theorem dX6_addsFigure_30 : decode cX6_addsFigure 30 = .ok (.ireturn, 1) := by decide +kernel
theorem dX6_addsFigure_31 : decode cX6_addsFigure 31 = .ok (.aload_n 0, 1) := by decide +kernel
theorem dX6_addsFigure_32 : decode cX6_addsFigure 32 = .ok (.getfield 42, 3) := by decide +kernel
theorem dX6_addsFigure_35 : decode cX6_addsFigure 35 = .ok (.ifCond .eq 10, 3) := by decide +kernel
theorem dX6_addsFigure_38 : decode cX6_addsFigure 38 = .ok (.bipush 48, 2) := by decide +kernel
theorem dX6_addsFigure_40 : decode cX6_addsFigure 40 = .ok (.iload_n 1, 1) := by decide +kernel
theorem dX6_addsFigure_41 : decode cX6_addsFigure 41 = .ok (.isub, 1) := by decide +kernel
theorem dX6_addsFigure_42 : decode cX6_addsFigure 42 = .ok (.goto 7, 3) := by decide +kernel
theorem dX6_addsFigure_45 : decode cX6_addsFigure 45 = .ok (.iload_n 1, 1) := by decide +kernel
theorem dX6_addsFigure_46 : decode cX6_addsFigure 46 = .ok (.bipush 48, 2) := by decide +kernel
theorem dX6_addsFigure_48 : decode cX6_addsFigure 48 = .ok (.isub, 1) := by decide +kernel
theorem dX6_addsFigure_49 : decode cX6_addsFigure 49 = .ok (.istore 4, 2) := by decide +kernel
theorem dX6_addsFigure_51 : decode cX6_addsFigure 51 = .ok (.aload_n 0, 1) := by decide +kernel
theorem dX6_addsFigure_52 : decode cX6_addsFigure 52 = .ok (.getfield 38, 3) := by decide +kernel
theorem dX6_addsFigure_55 : decode cX6_addsFigure 55 = .ok (.ifCond .eq 24, 3) := by decide +kernel
theorem dX6_addsFigure_58 : decode cX6_addsFigure 58 = .ok (.aload_n 0, 1) := by decide +kernel
theorem dX6_addsFigure_59 : decode cX6_addsFigure 59 = .ok (.getfield 26, 3) := by decide +kernel
theorem dX6_addsFigure_62 : decode cX6_addsFigure 62 = .ok (.iload_n 3, 1) := by decide +kernel
theorem dX6_addsFigure_63 : decode cX6_addsFigure 63 = .ok (.aload_n 0, 1) := by decide +kernel
theorem dX6_addsFigure_64 : decode cX6_addsFigure 64 = .ok (.getfield 26, 3) := by decide +kernel
theorem dX6_addsFigure_67 : decode cX6_addsFigure 67 = .ok (.iload_n 3, 1) := by decide +kernel
theorem dX6_addsFigure_68 : decode cX6_addsFigure 68 = .ok (.iaload, 1) := by decide +kernel
theorem dX6_addsFigure_69 : decode cX6_addsFigure 69 = .ok (.bipush 10, 2) := by decide +kernel
theorem dX6_addsFigure_71 : decode cX6_addsFigure 71 = .ok (.imul, 1) := by decide +kernel
theorem dX6_addsFigure_72 : decode cX6_addsFigure 72 = .ok (.iload 4, 2) := by decide +kernel
theorem dX6_addsFigure_74 : decode cX6_addsFigure 74 = .ok (.iadd, 1) := by decide +kernel
theorem dX6_addsFigure_75 : decode cX6_addsFigure 75 = .ok (.iastore, 1) := by decide +kernel
theorem dX6_addsFigure_76 : decode cX6_addsFigure 76 = .ok (.goto 21, 3) := by decide +kernel
theorem dX6_addsFigure_79 : decode cX6_addsFigure 79 = .ok (.aload_n 0, 1) := by decide +kernel
theorem dX6_addsFigure_80 : decode cX6_addsFigure 80 = .ok (.getfield 23, 3) := by decide +kernel
theorem dX6_addsFigure_83 : decode cX6_addsFigure 83 = .ok (.iload_n 3, 1) := by decide +kernel
theorem dX6_addsFigure_84 : decode cX6_addsFigure 84 = .ok (.aload_n 0, 1) := by decide +kernel
theorem dX6_addsFigure_85 : decode cX6_addsFigure 85 = .ok (.getfield 23, 3) := by decide +kernel
theorem dX6_addsFigure_88 : decode cX6_addsFigure 88 = .ok (.iload_n 3, 1) := by decide +kernel
theorem dX6_addsFigure_89 : decode cX6_addsFigure 89 = .ok (.iaload, 1) := by decide +kernel
theorem dX6_addsFigure_90 : decode cX6_addsFigure 90 = .ok (.bipush 10, 2) := by decide +kernel
theorem dX6_addsFigure_92 : decode cX6_addsFigure 92 = .ok (.imul, 1) := by decide +kernel
theorem dX6_addsFigure_93 : decode cX6_addsFigure 93 = .ok (.iload 4, 2) := by decide +kernel
theorem dX6_addsFigure_95 : decode cX6_addsFigure 95 = .ok (.iadd, 1) := by decide +kernel
theorem dX6_addsFigure_96 : decode cX6_addsFigure 96 = .ok (.iastore, 1) := by decide +kernel
theorem dX6_addsFigure_97 : decode cX6_addsFigure 97 = .ok (.aload_n 0, 1) := by decide +kernel
theorem dX6_addsFigure_98 : decode cX6_addsFigure 98 = .ok (.iload_n 2, 1) := by decide +kernel
theorem dX6_addsFigure_99 : decode cX6_addsFigure 99 = .ok (.putfield 32, 3) := by decide +kernel
theorem dX6_addsFigure_102 : decode cX6_addsFigure 102 = .ok (.iconst 1, 1) := by decide +kernel
theorem dX6_addsFigure_103 : decode cX6_addsFigure 103 = .ok (.ireturn, 1) := by decide +kernel
theorem dX6_endsNumberWith_0 : decode cX6_endsNumberWith 0 = .ok (.iload_n 1, 1) := by decide +kernel
theorem dX6_endsNumberWith_1 : decode cX6_endsNumberWith 1 = .ok (.bipush 44, 2) := by decide +kernel
theorem dX6_endsNumberWith_3 : decode cX6_endsNumberWith 3 = .ok (.if_icmp .ne 32, 3) := by decide +kernel
theorem dX6_endsNumberWith_6 : decode cX6_endsNumberWith 6 = .ok (.aload_n 0, 1) := by decide +kernel
theorem dX6_endsNumberWith_7 : decode cX6_endsNumberWith 7 = .ok (.getfield 35, 3) := by decide +kernel
theorem dX6_endsNumberWith_10 : decode cX6_endsNumberWith 10 = .ok (.ifCond .le 25, 3) := by decide +kernel
theorem dX6_endsNumberWith_13 : decode cX6_endsNumberWith 13 = .ok (.aload_n 0, 1) := by decide +kernel
theorem dX6_endsNumberWith_14 : decode cX6_endsNumberWith 14 = .ok (.iconst 0, 1) := by decide +kernel
theorem dX6_endsNumberWith_15 : decode cX6_endsNumberWith 15 = .ok (.putfield 35, 3) := by decide +kernel
theorem dX6_endsNumberWith_18 : decode cX6_endsNumberWith 18 = .ok (.aload_n 0, 1) := by decide +kernel
theorem dX6_endsNumberWith_19 : decode cX6_endsNumberWith 19 = .ok (.iconst 1, 1) := by decide +kernel
theorem dX6_endsNumberWith_20 : decode cX6_endsNumberWith 20 = .ok (.putfield 38, 3) := by decide +kernel
theorem dX6_endsNumberWith_23 : decode cX6_endsNumberWith 23 = .ok (.aload_n 0, 1) := by decide +kernel
theorem dX6_endsNumberWith_24 : decode cX6_endsNumberWith 24 = .ok (.iconst 0, 1) := by decide +kernel
theorem dX6_endsNumberWith_25 : decode cX6_endsNumberWith 25 = .ok (.putfield 42, 3) := by decide +kernel
theorem dX6_endsNumberWith_28 : decode cX6_endsNumberWith 28 = .ok (.aload_n 0, 1) := by decide +kernel
theorem dX6_endsNumberWith_29 : decode cX6_endsNumberWith 29 = .ok (.iconst 1, 1) := by decide +kernel
theorem dX6_endsNumberWith_30 : decode cX6_endsNumberWith 30 = .ok (.putfield 32, 3) := by decide +kernel
theorem dX6_endsNumberWith_33 : decode cX6_endsNumberWith 33 = .ok (.iconst 1, 1) := by decide +kernel
theorem dX6_endsNumberWith_34 : decode cX6_endsNumberWith 34 = .ok (.ireturn, 1) := by decide +kernel
theorem dX6_endsNumberWith_35 : decode cX6_endsNumberWith 35 = .ok (.iload_n 1, 1) := by decide +kernel
theorem dX6_endsNumberWith_36 : decode cX6_endsNumberWith 36 = .ok (.bipush 59, 2) := by decide +kernel
theorem dX6_endsNumberWith_38 : decode cX6_endsNumberWith 38 = .ok (.if_icmp .ne 17, 3) := by decide +kernel
theorem dX6_endsNumberWith_41 : decode cX6_endsNumberWith 41 = .ok (.aload_n 0, 1) := by decide +kernel
theorem dX6_endsNumberWith_42 : decode cX6_endsNumberWith 42 = .ok (.getfield 35, 3) := by decide +kernel
theorem dX6_endsNumberWith_45 : decode cX6_endsNumberWith 45 = .ok (.ifCond .ne 10, 3) := by decide +kernel
theorem dX6_endsNumberWith_48 : decode cX6_endsNumberWith 48 = .ok (.aload_n 0, 1) := by decide +kernel
theorem dX6_endsNumberWith_49 : decode cX6_endsNumberWith 49 = .ok (.iconst 0, 1) := by decide +kernel
theorem dX6_endsNumberWith_50 : decode cX6_endsNumberWith 50 = .ok (.putfield 32, 3) := by decide +kernel
theorem dX6_endsNumberWith_53 : decode cX6_endsNumberWith 53 = .ok (.iconst 1, 1) := by decide +kernel
theorem dX6_endsNumberWith_54 : decode cX6_endsNumberWith 54 = .ok (.ireturn, 1) := by decide +kernel
theorem dX6_endsNumberWith_55 : decode cX6_endsNumberWith 55 = .ok (.iconst 0, 1) := by decide +kernel
theorem dX6_endsNumberWith_56 : decode cX6_endsNumberWith 56 = .ok (.ireturn, 1) := by decide +kernel
set_option maxRecDepth 20000 in
theorem gw_wsX3_init : wsX3_init.all goodWord = true := by decide +kernel
set_option maxRecDepth 20000 in
theorem ggX7_init_X3_init : GoodIn wsX7_init wsX3_init := goodIn_sub (List.forall_mem_cons.mpr ⟨(List.mem_cons_of_mem _ (List.mem_append_left _ (List.mem_append_left _ (List.mem_append_left _ (List.mem_of_getElem? (i := 18) rfl))))), List.forall_mem_append.mpr ⟨List.forall_mem_cons.mpr ⟨(List.mem_cons_of_mem _ (List.mem_append_left _ (List.mem_append_left _ (List.mem_append_left _ (List.mem_of_getElem? (i := 19) rfl))))), List.forall_mem_cons.mpr ⟨(List.mem_cons_of_mem _ (List.mem_append_left _ (List.mem_append_left _ (List.mem_append_left _ (List.mem_of_getElem? (i := 1) rfl))))), List.forall_mem_cons.mpr ⟨(List.mem_cons_of_mem _ (List.mem_append_left _ (List.mem_append_left _ (List.mem_append_left _ (List.mem_of_getElem? (i := 2) rfl))))), List.forall_mem_cons.mpr ⟨(List.mem_cons_of_mem _ (List.mem_append_left _ (List.mem_append_left _ (List.mem_append_left _ (List.mem_of_getElem? (i := 7) rfl))))), List.forall_mem_cons.mpr ⟨(List.mem_cons_of_mem _ (List.mem_append_left _ (List.mem_append_left _ (List.mem_append_left _ (List.mem_of_getElem? (i := 20) rfl))))), List.forall_mem_cons.mpr ⟨(List.mem_cons_of_mem _ (List.mem_append_left _ (List.mem_append_left _ (List.mem_append_left _ (List.mem_of_getElem? (i := 21) rfl))))), List.forall_mem_cons.mpr ⟨(List.mem_cons_of_mem _ (List.mem_append_left _ (List.mem_append_left _ (List.mem_append_left _ (List.mem_of_getElem? (i := 22) rfl))))), List.forall_mem_cons.mpr ⟨(List.mem_cons_of_mem _ (List.mem_append_left _ (List.mem_append_left _ (List.mem_append_left _ (List.mem_of_getElem? (i := 23) rfl))))), List.forall_mem_cons.mpr ⟨(List.mem_cons_of_mem _ (List.mem_append_left _ (List.mem_append_left _ (List.mem_append_right _ (List.mem_of_getElem? (i := 0) rfl))))), List.forall_mem_cons.mpr ⟨(List.mem_cons_of_mem _ (List.mem_append_left _ (List.mem_append_left _ (List.mem_append_right _ (List.mem_of_getElem? (i := 1) rfl))))), List.forall_mem_cons.mpr ⟨(List.mem_cons_of_mem _ (List.mem_append_left _ (List.mem_append_left _ (List.mem_append_right _ (List.mem_of_getElem? (i := 2) rfl))))), List.forall_mem_cons.mpr ⟨(List.mem_cons_of_mem _ (List.mem_append_left _ (List.mem_append_left _ (List.mem_append_right _ (List.mem_of_getElem? (i := 3) rfl))))), List.forall_mem_cons.mpr ⟨(List.mem_cons_of_mem _ (List.mem_append_left _ (List.mem_append_left _ (List.mem_append_right _ (List.mem_of_getElem? (i := 4) rfl))))), fun _ h => absurd h List.not_mem_nil⟩⟩⟩⟩⟩⟩⟩⟩⟩⟩⟩⟩⟩, fun _ h => (List.mem_cons_of_mem _ (List.mem_append_left _ (List.mem_append_right _ h)))⟩⟩) gw_wsX3_init
set_option maxRecDepth 20000 in
theorem gX7_init_X3_init : GoodIn wsX7_init (wsX3_init) := ggX7_init_X3_init
theorem dX7_init_0 : decode cX7_init 0 = .ok (.aload_n 0, 1) := by decide +kernel
theorem dX7_init_1 : decode cX7_init 1 = .ok (.invokespecial 3, 3) := by decide +kernel
theorem dX7_init_4 : decode cX7_init 4 = .ok (.aload_n 0, 1) := by decide +kernel
theorem dX7_init_5 : decode cX7_init 5 = .ok (.new 9, 3) := by decide +kernel
theorem dX7_init_8 : decode cX7_init 8 = .ok (.dup, 1) := by decide +kernel
theorem dX7_init_9 : decode cX7_init 9 = .ok (.invokespecial 11, 3) := by decide +kernel
theorem dX7_init_12 : decode cX7_init 12 = .ok (.putfield 12, 3) := by decide +kernel
theorem dX7_init_15 : decode cX7_init 15 = .ok (.aload_n 0, 1) := by decide +kernel
theorem dX7_init_16 : decode cX7_init 16 = .ok (.sipush 1024, 3) := by decide +kernel
theorem dX7_init_19 : decode cX7_init 19 = .ok (.newarray .int, 2) := by decide +kernel
theorem dX7_init_21 : decode cX7_init 21 = .ok (.putfield 18, 3) := by decide +kernel
theorem dX7_init_24 : decode cX7_init 24 = .ok (.aload_n 0, 1) := by decide +kernel
theorem dX7_init_25 : decode cX7_init 25 = .ok (.sipush 1024, 3) := by decide +kernel
theorem dX7_init_28 : decode cX7_init 28 = .ok (.newarray .int, 2) := by decide +kernel
theorem dX7_init_30 : decode cX7_init 30 = .ok (.putfield 22, 3) := by decide +kernel
theorem dX7_init_33 : decode cX7_init 33 = .ok (.aload_n 0, 1) := by decide +kernel
theorem dX7_init_34 : decode cX7_init 34 = .ok (.sipush 1024, 3) := by decide +kernel
theorem dX7_init_37 : decode cX7_init 37 = .ok (.newarray .int, 2) := by decide +kernel
theorem dX7_init_39 : decode cX7_init 39 = .ok (.putfield 25, 3) := by decide +kernel
theorem dX7_init_42 : decode cX7_init 42 = .ok (.aload_n 0, 1) := by decide +kernel
theorem dX7_init_43 : decode cX7_init 43 = .ok (.iconst 0, 1) := by decide +kernel
theorem dX7_init_44 : decode cX7_init 44 = .ok (.putfield 28, 3) := by decide +kernel
theorem dX7_init_47 : decode cX7_init 47 = .ok (.aload_n 0, 1) := by decide +kernel
theorem dX7_init_48 : decode cX7_init 48 = .ok (.iconst 0, 1) := by decide +kernel
theorem dX7_init_49 : decode cX7_init 49 = .ok (.putfield 32, 3) := by decide +kernel
theorem dX7_init_52 : decode cX7_init 52 = .ok (.aload_n 0, 1) := by decide +kernel
theorem dX7_init_53 : decode cX7_init 53 = .ok (.iconst 0, 1) := by decide +kernel
theorem dX7_init_54 : decode cX7_init 54 = .ok (.putfield 35, 3) := by decide +kernel
theorem dX7_init_57 : decode cX7_init 57 = .ok (.aload_n 0, 1) := by decide +kernel
theorem dX7_init_58 : decode cX7_init 58 = .ok (.iconst 0, 1) := by decide +kernel
theorem dX7_init_59 : decode cX7_init 59 = .ok (.putfield 39, 3) := by decide +kernel
theorem dX7_init_62 : decode cX7_init 62 = .ok (.aload_n 0, 1) := by decide +kernel
theorem dX7_init_63 : decode cX7_init 63 = .ok (.iconst (-1), 1) := by decide +kernel
theorem dX7_init_64 : decode cX7_init 64 = .ok (.putfield 42, 3) := by decide +kernel
theorem dX7_init_67 : decode cX7_init 67 = .ok (.return_, 1) := by decide +kernel
set_option maxRecDepth 20000 in
theorem gw_wsX3_hasNumbersOf : wsX3_hasNumbersOf.all goodWord = true := by decide +kernel
set_option maxRecDepth 20000 in
theorem ggX7_draw_X3_hasNumbersOf : GoodIn wsX7_draw wsX3_hasNumbersOf := goodIn_sub (List.forall_mem_cons.mpr ⟨(List.mem_cons_of_mem _ (List.mem_append_left _ (List.mem_append_left _ (List.mem_append_left _ (List.mem_of_getElem? (i := 8) rfl))))), List.forall_mem_append.mpr ⟨List.forall_mem_cons.mpr ⟨(List.mem_cons_of_mem _ (List.mem_append_left _ (List.mem_append_left _ (List.mem_append_left _ (List.mem_of_getElem? (i := 9) rfl))))), fun _ h => absurd h List.not_mem_nil⟩, fun _ h => (List.mem_cons_of_mem _ (List.mem_append_right _ h))⟩⟩) gw_wsX3_hasNumbersOf
set_option maxRecDepth 20000 in
theorem gX7_draw_X3_hasNumbersOf : GoodIn wsX7_draw (wsV RX7 45 RX3 yX3_hasNumbersOf wsX3_hasNumbersOf) := goodIn_app (goodIn_of _ (by decide +kernel)) ggX7_draw_X3_hasNumbersOf
set_option maxRecDepth 20000 in
theorem gw_wsX7_begin : wsX7_begin.all goodWord = true := by decide +kernel
set_option maxRecDepth 20000 in
theorem ggX7_draw_X7_begin : GoodIn wsX7_draw wsX7_begin := goodIn_sub (List.forall_mem_cons.mpr ⟨(List.mem_cons_of_mem _ (List.mem_append_left _ (List.mem_append_left _ (List.mem_append_left _ (List.mem_of_getElem? (i := 14) rfl))))), List.forall_mem_append.mpr ⟨List.forall_mem_append.mpr ⟨List.forall_mem_append.mpr ⟨List.forall_mem_cons.mpr ⟨(List.mem_cons_of_mem _ (List.mem_append_left _ (List.mem_append_left _ (List.mem_append_left _ (List.mem_of_getElem? (i := 2) rfl))))), List.forall_mem_cons.mpr ⟨(List.mem_cons_of_mem _ (List.mem_append_left _ (List.mem_append_left _ (List.mem_append_left _ (List.mem_of_getElem? (i := 1) rfl))))), List.forall_mem_cons.mpr ⟨(List.mem_cons_of_mem _ (List.mem_append_left _ (List.mem_append_left _ (List.mem_append_left _ (List.mem_of_getElem? (i := 15) rfl))))), List.forall_mem_cons.mpr ⟨(List.mem_cons_of_mem _ (List.mem_append_left _ (List.mem_append_left _ (List.mem_append_left _ (List.mem_of_getElem? (i := 16) rfl))))), List.forall_mem_cons.mpr ⟨(List.mem_cons_of_mem _ (List.mem_append_left _ (List.mem_append_left _ (List.mem_append_left _ (List.mem_of_getElem? (i := 17) rfl))))), List.forall_mem_cons.mpr ⟨(List.mem_cons_of_mem _ (List.mem_append_left _ (List.mem_append_left _ (List.mem_append_left _ (List.mem_of_getElem? (i := 18) rfl))))), List.forall_mem_cons.mpr ⟨(List.mem_cons_of_mem _ (List.mem_append_left _ (List.mem_append_left _ (List.mem_append_left _ (List.mem_of_getElem? (i := 3) rfl))))), List.forall_mem_cons.mpr ⟨(List.mem_cons_of_mem _ (List.mem_append_left _ (List.mem_append_left _ (List.mem_append_left _ (List.mem_of_getElem? (i := 0) rfl))))), List.forall_mem_cons.mpr ⟨(List.mem_cons_of_mem _ (List.mem_append_left _ (List.mem_append_left _ (List.mem_append_left _ (List.mem_of_getElem? (i := 19) rfl))))), List.forall_mem_cons.mpr ⟨(List.mem_cons_of_mem _ (List.mem_append_left _ (List.mem_append_left _ (List.mem_append_left _ (List.mem_of_getElem? (i := 20) rfl))))), List.forall_mem_cons.mpr ⟨(List.mem_cons_of_mem _ (List.mem_append_left _ (List.mem_append_left _ (List.mem_append_left _ (List.mem_of_getElem? (i := 21) rfl))))), List.forall_mem_cons.mpr ⟨(List.mem_cons_of_mem _ (List.mem_append_left _ (List.mem_append_left _ (List.mem_append_left _ (List.mem_of_getElem? (i := 22) rfl))))), List.forall_mem_cons.mpr ⟨(List.mem_cons_of_mem _ (List.mem_append_left _ (List.mem_append_left _ (List.mem_append_left _ (List.mem_of_getElem? (i := 23) rfl))))), List.forall_mem_cons.mpr ⟨(List.mem_cons_of_mem _ (List.mem_append_left _ (List.mem_append_left _ (List.mem_append_right _ (List.mem_append_left _ (List.mem_of_getElem? (i := 0) rfl)))))), List.forall_mem_cons.mpr ⟨(List.mem_cons_of_mem _ (List.mem_append_left _ (List.mem_append_left _ (List.mem_append_left _ (List.mem_of_getElem? (i := 7) rfl))))), List.forall_mem_cons.mpr ⟨(List.mem_cons_of_mem _ (List.mem_append_left _ (List.mem_append_left _ (List.mem_append_right _ (List.mem_append_left _ (List.mem_of_getElem? (i := 1) rfl)))))), List.forall_mem_cons.mpr ⟨(List.mem_cons_of_mem _ (List.mem_append_left _ (List.mem_append_left _ (List.mem_append_left _ (List.mem_of_getElem? (i := 9) rfl))))), List.forall_mem_cons.mpr ⟨(List.mem_cons_of_mem _ (List.mem_append_left _ (List.mem_append_left _ (List.mem_append_right _ (List.mem_append_left _ (List.mem_of_getElem? (i := 2) rfl)))))), List.forall_mem_cons.mpr ⟨(List.mem_cons_of_mem _ (List.mem_append_left _ (List.mem_append_left _ (List.mem_append_right _ (List.mem_append_left _ (List.mem_of_getElem? (i := 3) rfl)))))), List.forall_mem_cons.mpr ⟨(List.mem_cons_of_mem _ (List.mem_append_left _ (List.mem_append_left _ (List.mem_append_right _ (List.mem_append_left _ (List.mem_of_getElem? (i := 4) rfl)))))), List.forall_mem_cons.mpr ⟨(List.mem_cons_of_mem _ (List.mem_append_left _ (List.mem_append_left _ (List.mem_append_right _ (List.mem_append_left _ (List.mem_of_getElem? (i := 5) rfl)))))), List.forall_mem_cons.mpr ⟨(List.mem_cons_of_mem _ (List.mem_append_left _ (List.mem_append_left _ (List.mem_append_right _ (List.mem_append_left _ (List.mem_of_getElem? (i := 6) rfl)))))), List.forall_mem_cons.mpr ⟨(List.mem_cons_of_mem _ (List.mem_append_left _ (List.mem_append_left _ (List.mem_append_right _ (List.mem_append_left _ (List.mem_of_getElem? (i := 7) rfl)))))), List.forall_mem_cons.mpr ⟨(List.mem_cons_of_mem _ (List.mem_append_left _ (List.mem_append_left _ (List.mem_append_right _ (List.mem_append_left _ (List.mem_of_getElem? (i := 8) rfl)))))), fun _ h => absurd h List.not_mem_nil⟩⟩⟩⟩⟩⟩⟩⟩⟩⟩⟩⟩⟩⟩⟩⟩⟩⟩⟩⟩⟩⟩⟩⟩, List.forall_mem_cons.mpr ⟨(List.mem_cons_of_mem _ (List.mem_append_left _ (List.mem_append_left _ (List.mem_append_right _ (List.mem_append_left _ (List.mem_of_getElem? (i := 9) rfl)))))), List.forall_mem_cons.mpr ⟨(List.mem_cons_of_mem _ (List.mem_append_left _ (List.mem_append_left _ (List.mem_append_right _ (List.mem_append_left _ (List.mem_of_getElem? (i := 10) rfl)))))), fun _ h => absurd h List.not_mem_nil⟩⟩⟩, fun _ h => (List.mem_cons_of_mem _ (List.mem_append_left _ (List.mem_append_right _ h)))⟩, fun _ h => (List.mem_cons_of_mem _ (List.mem_append_right _ h))⟩⟩) gw_wsX7_begin
set_option maxRecDepth 20000 in
theorem gX7_draw_X7_begin : GoodIn wsX7_draw (wsV RX7 49 RX7 yX7_begin wsX7_begin) := goodIn_app (goodIn_of _ (by decide +kernel)) ggX7_draw_X7_begin
set_option maxRecDepth 20000 in
theorem gw_wsX7_settle : wsX7_settle.all goodWord = true := by decide +kernel
set_option maxRecDepth 20000 in
theorem ggX7_draw_X7_settle : GoodIn wsX7_draw wsX7_settle := goodIn_sub (List.forall_mem_cons.mpr ⟨(List.mem_cons_of_mem _ (List.mem_append_left _ (List.mem_append_left _ (List.mem_append_right _ (List.mem_append_left _ (List.mem_of_getElem? (i := 14) rfl)))))), List.forall_mem_append.mpr ⟨List.forall_mem_append.mpr ⟨List.forall_mem_append.mpr ⟨List.forall_mem_cons.mpr ⟨(List.mem_cons_of_mem _ (List.mem_append_left _ (List.mem_append_left _ (List.mem_append_left _ (List.mem_of_getElem? (i := 3) rfl))))), List.forall_mem_cons.mpr ⟨(List.mem_cons_of_mem _ (List.mem_append_left _ (List.mem_append_left _ (List.mem_append_left _ (List.mem_of_getElem? (i := 21) rfl))))), List.forall_mem_cons.mpr ⟨(List.mem_cons_of_mem _ (List.mem_append_left _ (List.mem_append_left _ (List.mem_append_left _ (List.mem_of_getElem? (i := 2) rfl))))), List.forall_mem_cons.mpr ⟨(List.mem_cons_of_mem _ (List.mem_append_left _ (List.mem_append_left _ (List.mem_append_left _ (List.mem_of_getElem? (i := 1) rfl))))), List.forall_mem_cons.mpr ⟨(List.mem_cons_of_mem _ (List.mem_append_left _ (List.mem_append_left _ (List.mem_append_right _ (List.mem_append_left _ (List.mem_of_getElem? (i := 15) rfl)))))), List.forall_mem_cons.mpr ⟨(List.mem_cons_of_mem _ (List.mem_append_left _ (List.mem_append_left _ (List.mem_append_right _ (List.mem_append_left _ (List.mem_of_getElem? (i := 16) rfl)))))), List.forall_mem_cons.mpr ⟨(List.mem_cons_of_mem _ (List.mem_append_left _ (List.mem_append_left _ (List.mem_append_right _ (List.mem_append_left _ (List.mem_of_getElem? (i := 17) rfl)))))), List.forall_mem_cons.mpr ⟨(List.mem_cons_of_mem _ (List.mem_append_left _ (List.mem_append_left _ (List.mem_append_right _ (List.mem_append_left _ (List.mem_of_getElem? (i := 18) rfl)))))), List.forall_mem_cons.mpr ⟨(List.mem_cons_of_mem _ (List.mem_append_left _ (List.mem_append_left _ (List.mem_append_right _ (List.mem_append_left _ (List.mem_of_getElem? (i := 19) rfl)))))), List.forall_mem_cons.mpr ⟨(List.mem_cons_of_mem _ (List.mem_append_left _ (List.mem_append_left _ (List.mem_append_left _ (List.mem_of_getElem? (i := 13) rfl))))), List.forall_mem_cons.mpr ⟨(List.mem_cons_of_mem _ (List.mem_append_left _ (List.mem_append_left _ (List.mem_append_right _ (List.mem_append_left _ (List.mem_of_getElem? (i := 20) rfl)))))), List.forall_mem_cons.mpr ⟨(List.mem_cons_of_mem _ (List.mem_append_left _ (List.mem_append_left _ (List.mem_append_right _ (List.mem_append_left _ (List.mem_of_getElem? (i := 21) rfl)))))), List.forall_mem_cons.mpr ⟨(List.mem_cons_of_mem _ (List.mem_append_left _ (List.mem_append_left _ (List.mem_append_right _ (List.mem_append_left _ (List.mem_of_getElem? (i := 22) rfl)))))), List.forall_mem_cons.mpr ⟨(List.mem_cons_of_mem _ (List.mem_append_left _ (List.mem_append_left _ (List.mem_append_right _ (List.mem_append_left _ (List.mem_of_getElem? (i := 23) rfl)))))), List.forall_mem_cons.mpr ⟨(List.mem_cons_of_mem _ (List.mem_append_left _ (List.mem_append_left _ (List.mem_append_left _ (List.mem_of_getElem? (i := 7) rfl))))), List.forall_mem_cons.mpr ⟨(List.mem_cons_of_mem _ (List.mem_append_left _ (List.mem_append_left _ (List.mem_append_right _ (List.mem_append_right _ (List.mem_append_left _ (List.mem_of_getElem? (i := 0) rfl))))))), List.forall_mem_cons.mpr ⟨(List.mem_cons_of_mem _ (List.mem_append_left _ (List.mem_append_left _ (List.mem_append_left _ (List.mem_of_getElem? (i := 9) rfl))))), List.forall_mem_cons.mpr ⟨(List.mem_cons_of_mem _ (List.mem_append_left _ (List.mem_append_left _ (List.mem_append_right _ (List.mem_append_right _ (List.mem_append_left _ (List.mem_of_getElem? (i := 1) rfl))))))), List.forall_mem_cons.mpr ⟨(List.mem_cons_of_mem _ (List.mem_append_left _ (List.mem_append_left _ (List.mem_append_left _ (List.mem_of_getElem? (i := 16) rfl))))), List.forall_mem_cons.mpr ⟨(List.mem_cons_of_mem _ (List.mem_append_left _ (List.mem_append_left _ (List.mem_append_left _ (List.mem_of_getElem? (i := 17) rfl))))), List.forall_mem_cons.mpr ⟨(List.mem_cons_of_mem _ (List.mem_append_left _ (List.mem_append_left _ (List.mem_append_left _ (List.mem_of_getElem? (i := 18) rfl))))), List.forall_mem_cons.mpr ⟨(List.mem_cons_of_mem _ (List.mem_append_left _ (List.mem_append_left _ (List.mem_append_right _ (List.mem_append_left _ (List.mem_of_getElem? (i := 6) rfl)))))), List.forall_mem_cons.mpr ⟨(List.mem_cons_of_mem _ (List.mem_append_left _ (List.mem_append_left _ (List.mem_append_right _ (List.mem_append_right _ (List.mem_append_left _ (List.mem_of_getElem? (i := 2) rfl))))))), List.forall_mem_cons.mpr ⟨(List.mem_cons_of_mem _ (List.mem_append_left _ (List.mem_append_left _ (List.mem_append_right _ (List.mem_append_right _ (List.mem_append_left _ (List.mem_of_getElem? (i := 3) rfl))))))), fun _ h => absurd h List.not_mem_nil⟩⟩⟩⟩⟩⟩⟩⟩⟩⟩⟩⟩⟩⟩⟩⟩⟩⟩⟩⟩⟩⟩⟩⟩, List.forall_mem_append.mpr ⟨List.forall_mem_cons.mpr ⟨(List.mem_cons_of_mem _ (List.mem_append_left _ (List.mem_append_left _ (List.mem_append_right _ (List.mem_append_right _ (List.mem_append_left _ (List.mem_of_getElem? (i := 4) rfl))))))), List.forall_mem_cons.mpr ⟨(List.mem_cons_of_mem _ (List.mem_append_left _ (List.mem_append_left _ (List.mem_append_right _ (List.mem_append_right _ (List.mem_append_left _ (List.mem_of_getElem? (i := 5) rfl))))))), List.forall_mem_cons.mpr ⟨(List.mem_cons_of_mem _ (List.mem_append_left _ (List.mem_append_left _ (List.mem_append_right _ (List.mem_append_right _ (List.mem_append_left _ (List.mem_of_getElem? (i := 6) rfl))))))), List.forall_mem_cons.mpr ⟨(List.mem_cons_of_mem _ (List.mem_append_left _ (List.mem_append_left _ (List.mem_append_right _ (List.mem_append_right _ (List.mem_append_left _ (List.mem_of_getElem? (i := 7) rfl))))))), List.forall_mem_cons.mpr ⟨(List.mem_cons_of_mem _ (List.mem_append_left _ (List.mem_append_left _ (List.mem_append_right _ (List.mem_append_right _ (List.mem_append_left _ (List.mem_of_getElem? (i := 8) rfl))))))), List.forall_mem_cons.mpr ⟨(List.mem_cons_of_mem _ (List.mem_append_left _ (List.mem_append_left _ (List.mem_append_right _ (List.mem_append_right _ (List.mem_append_left _ (List.mem_of_getElem? (i := 9) rfl))))))), List.forall_mem_cons.mpr ⟨(List.mem_cons_of_mem _ (List.mem_append_left _ (List.mem_append_left _ (List.mem_append_right _ (List.mem_append_right _ (List.mem_append_left _ (List.mem_of_getElem? (i := 10) rfl))))))), List.forall_mem_cons.mpr ⟨(List.mem_cons_of_mem _ (List.mem_append_left _ (List.mem_append_left _ (List.mem_append_right _ (List.mem_append_right _ (List.mem_append_left _ (List.mem_of_getElem? (i := 11) rfl))))))), List.forall_mem_cons.mpr ⟨(List.mem_cons_of_mem _ (List.mem_append_left _ (List.mem_append_left _ (List.mem_append_right _ (List.mem_append_right _ (List.mem_append_left _ (List.mem_of_getElem? (i := 12) rfl))))))), List.forall_mem_cons.mpr ⟨(List.mem_cons_of_mem _ (List.mem_append_left _ (List.mem_append_left _ (List.mem_append_right _ (List.mem_append_right _ (List.mem_append_left _ (List.mem_of_getElem? (i := 13) rfl))))))), List.forall_mem_cons.mpr ⟨(List.mem_cons_of_mem _ (List.mem_append_left _ (List.mem_append_left _ (List.mem_append_right _ (List.mem_append_right _ (List.mem_append_left _ (List.mem_of_getElem? (i := 14) rfl))))))), List.forall_mem_cons.mpr ⟨(List.mem_cons_of_mem _ (List.mem_append_left _ (List.mem_append_left _ (List.mem_append_right _ (List.mem_append_right _ (List.mem_append_left _ (List.mem_of_getElem? (i := 15) rfl))))))), List.forall_mem_cons.mpr ⟨(List.mem_cons_of_mem _ (List.mem_append_left _ (List.mem_append_left _ (List.mem_append_right _ (List.mem_append_right _ (List.mem_append_left _ (List.mem_of_getElem? (i := 16) rfl))))))), List.forall_mem_cons.mpr ⟨(List.mem_cons_of_mem _ (List.mem_append_left _ (List.mem_append_left _ (List.mem_append_right _ (List.mem_append_right _ (List.mem_append_left _ (List.mem_of_getElem? (i := 17) rfl))))))), List.forall_mem_cons.mpr ⟨(List.mem_cons_of_mem _ (List.mem_append_left _ (List.mem_append_left _ (List.mem_append_right _ (List.mem_append_right _ (List.mem_append_left _ (List.mem_of_getElem? (i := 18) rfl))))))), List.forall_mem_cons.mpr ⟨(List.mem_cons_of_mem _ (List.mem_append_left _ (List.mem_append_left _ (List.mem_append_right _ (List.mem_append_right _ (List.mem_append_left _ (List.mem_of_getElem? (i := 19) rfl))))))), List.forall_mem_cons.mpr ⟨(List.mem_cons_of_mem _ (List.mem_append_left _ (List.mem_append_left _ (List.mem_append_right _ (List.mem_append_right _ (List.mem_append_left _ (List.mem_of_getElem? (i := 20) rfl))))))), List.forall_mem_cons.mpr ⟨(List.mem_cons_of_mem _ (List.mem_append_left _ (List.mem_append_left _ (List.mem_append_right _ (List.mem_append_right _ (List.mem_append_left _ (List.mem_of_getElem? (i := 21) rfl))))))), List.forall_mem_cons.mpr ⟨(List.mem_cons_of_mem _ (List.mem_append_left _ (List.mem_append_left _ (List.mem_append_right _ (List.mem_append_right _ (List.mem_append_left _ (List.mem_of_getElem? (i := 22) rfl))))))), List.forall_mem_cons.mpr ⟨(List.mem_cons_of_mem _ (List.mem_append_left _ (List.mem_append_left _ (List.mem_append_right _ (List.mem_append_right _ (List.mem_append_left _ (List.mem_of_getElem? (i := 23) rfl))))))), List.forall_mem_cons.mpr ⟨(List.mem_cons_of_mem _ (List.mem_append_left _ (List.mem_append_left _ (List.mem_append_right _ (List.mem_append_right _ (List.mem_append_right _ (List.mem_append_left _ (List.mem_of_getElem? (i := 0) rfl)))))))), List.forall_mem_cons.mpr ⟨(List.mem_cons_of_mem _ (List.mem_append_left _ (List.mem_append_left _ (List.mem_append_right _ (List.mem_append_right _ (List.mem_append_right _ (List.mem_append_left _ (List.mem_of_getElem? (i := 1) rfl)))))))), List.forall_mem_cons.mpr ⟨(List.mem_cons_of_mem _ (List.mem_append_left _ (List.mem_append_left _ (List.mem_append_right _ (List.mem_append_right _ (List.mem_append_right _ (List.mem_append_left _ (List.mem_of_getElem? (i := 2) rfl)))))))), List.forall_mem_cons.mpr ⟨(List.mem_cons_of_mem _ (List.mem_append_left _ (List.mem_append_left _ (List.mem_append_right _ (List.mem_append_right _ (List.mem_append_right _ (List.mem_append_left _ (List.mem_of_getElem? (i := 3) rfl)))))))), fun _ h => absurd h List.not_mem_nil⟩⟩⟩⟩⟩⟩⟩⟩⟩⟩⟩⟩⟩⟩⟩⟩⟩⟩⟩⟩⟩⟩⟩⟩, List.forall_mem_append.mpr ⟨List.forall_mem_cons.mpr ⟨(List.mem_cons_of_mem _ (List.mem_append_left _ (List.mem_append_left _ (List.mem_append_right _ (List.mem_append_right _ (List.mem_append_right _ (List.mem_append_left _ (List.mem_of_getElem? (i := 4) rfl)))))))), List.forall_mem_cons.mpr ⟨(List.mem_cons_of_mem _ (List.mem_append_left _ (List.mem_append_left _ (List.mem_append_right _ (List.mem_append_right _ (List.mem_append_right _ (List.mem_append_left _ (List.mem_of_getElem? (i := 5) rfl)))))))), List.forall_mem_cons.mpr ⟨(List.mem_cons_of_mem _ (List.mem_append_left _ (List.mem_append_left _ (List.mem_append_right _ (List.mem_append_right _ (List.mem_append_right _ (List.mem_append_left _ (List.mem_of_getElem? (i := 6) rfl)))))))), List.forall_mem_cons.mpr ⟨(List.mem_cons_of_mem _ (List.mem_append_left _ (List.mem_append_left _ (List.mem_append_right _ (List.mem_append_right _ (List.mem_append_right _ (List.mem_append_left _ (List.mem_of_getElem? (i := 7) rfl)))))))), List.forall_mem_cons.mpr ⟨(List.mem_cons_of_mem _ (List.mem_append_left _ (List.mem_append_left _ (List.mem_append_right _ (List.mem_append_right _ (List.mem_append_right _ (List.mem_append_left _ (List.mem_of_getElem? (i := 8) rfl)))))))), List.forall_mem_cons.mpr ⟨(List.mem_cons_of_mem _ (List.mem_append_left _ (List.mem_append_left _ (List.mem_append_right _ (List.mem_append_right _ (List.mem_append_right _ (List.mem_append_left _ (List.mem_of_getElem? (i := 9) rfl)))))))), List.forall_mem_cons.mpr ⟨(List.mem_cons_of_mem _ (List.mem_append_left _ (List.mem_append_left _ (List.mem_append_right _ (List.mem_append_right _ (List.mem_append_right _ (List.mem_append_left _ (List.mem_of_getElem? (i := 10) rfl)))))))), List.forall_mem_cons.mpr ⟨(List.mem_cons_of_mem _ (List.mem_append_left _ (List.mem_append_left _ (List.mem_append_right _ (List.mem_append_right _ (List.mem_append_right _ (List.mem_append_left _ (List.mem_of_getElem? (i := 11) rfl)))))))), List.forall_mem_cons.mpr ⟨(List.mem_cons_of_mem _ (List.mem_append_left _ (List.mem_append_left _ (List.mem_append_right _ (List.mem_append_right _ (List.mem_append_right _ (List.mem_append_left _ (List.mem_of_getElem? (i := 12) rfl)))))))), List.forall_mem_cons.mpr ⟨(List.mem_cons_of_mem _ (List.mem_append_left _ (List.mem_append_left _ (List.mem_append_right _ (List.mem_append_right _ (List.mem_append_right _ (List.mem_append_left _ (List.mem_of_getElem? (i := 13) rfl)))))))), List.forall_mem_cons.mpr ⟨(List.mem_cons_of_mem _ (List.mem_append_left _ (List.mem_append_left _ (List.mem_append_right _ (List.mem_append_right _ (List.mem_append_right _ (List.mem_append_left _ (List.mem_of_getElem? (i := 14) rfl)))))))), List.forall_mem_cons.mpr ⟨(List.mem_cons_of_mem _ (List.mem_append_left _ (List.mem_append_left _ (List.mem_append_right _ (List.mem_append_right _ (List.mem_append_right _ (List.mem_append_left _ (List.mem_of_getElem? (i := 15) rfl)))))))), List.forall_mem_cons.mpr ⟨(List.mem_cons_of_mem _ (List.mem_append_left _ (List.mem_append_left _ (List.mem_append_right _ (List.mem_append_right _ (List.mem_append_right _ (List.mem_append_left _ (List.mem_of_getElem? (i := 16) rfl)))))))), List.forall_mem_cons.mpr ⟨(List.mem_cons_of_mem _ (List.mem_append_left _ (List.mem_append_left _ (List.mem_append_right _ (List.mem_append_right _ (List.mem_append_right _ (List.mem_append_left _ (List.mem_of_getElem? (i := 17) rfl)))))))), List.forall_mem_cons.mpr ⟨(List.mem_cons_of_mem _ (List.mem_append_left _ (List.mem_append_left _ (List.mem_append_right _ (List.mem_append_right _ (List.mem_append_right _ (List.mem_append_left _ (List.mem_of_getElem? (i := 18) rfl)))))))), List.forall_mem_cons.mpr ⟨(List.mem_cons_of_mem _ (List.mem_append_left _ (List.mem_append_left _ (List.mem_append_right _ (List.mem_append_right _ (List.mem_append_right _ (List.mem_append_left _ (List.mem_of_getElem? (i := 19) rfl)))))))), List.forall_mem_cons.mpr ⟨(List.mem_cons_of_mem _ (List.mem_append_left _ (List.mem_append_left _ (List.mem_append_right _ (List.mem_append_right _ (List.mem_append_right _ (List.mem_append_left _ (List.mem_of_getElem? (i := 20) rfl)))))))), List.forall_mem_cons.mpr ⟨(List.mem_cons_of_mem _ (List.mem_append_left _ (List.mem_append_left _ (List.mem_append_right _ (List.mem_append_right _ (List.mem_append_right _ (List.mem_append_left _ (List.mem_of_getElem? (i := 21) rfl)))))))), List.forall_mem_cons.mpr ⟨(List.mem_cons_of_mem _ (List.mem_append_left _ (List.mem_append_left _ (List.mem_append_right _ (List.mem_append_right _ (List.mem_append_right _ (List.mem_append_left _ (List.mem_of_getElem? (i := 22) rfl)))))))), List.forall_mem_cons.mpr ⟨(List.mem_cons_of_mem _ (List.mem_append_left _ (List.mem_append_left _ (List.mem_append_right _ (List.mem_append_right _ (List.mem_append_right _ (List.mem_append_left _ (List.mem_of_getElem? (i := 23) rfl)))))))), List.forall_mem_cons.mpr ⟨(List.mem_cons_of_mem _ (List.mem_append_left _ (List.mem_append_left _ (List.mem_append_left _ (List.mem_of_getElem? (i := 15) rfl))))), List.forall_mem_cons.mpr ⟨(List.mem_cons_of_mem _ (List.mem_append_left _ (List.mem_append_left _ (List.mem_append_left _ (List.mem_of_getElem? (i := 20) rfl))))), List.forall_mem_cons.mpr ⟨(List.mem_cons_of_mem _ (List.mem_append_left _ (List.mem_append_left _ (List.mem_append_right _ (List.mem_append_right _ (List.mem_append_right _ (List.mem_append_right _ (List.mem_of_getElem? (i := 0) rfl)))))))), List.forall_mem_cons.mpr ⟨(List.mem_cons_of_mem _ (List.mem_append_left _ (List.mem_append_left _ (List.mem_append_right _ (List.mem_append_right _ (List.mem_append_right _ (List.mem_append_right _ (List.mem_of_getElem? (i := 1) rfl)))))))), fun _ h => absurd h List.not_mem_nil⟩⟩⟩⟩⟩⟩⟩⟩⟩⟩⟩⟩⟩⟩⟩⟩⟩⟩⟩⟩⟩⟩⟩⟩, List.forall_mem_cons.mpr ⟨(List.mem_cons_of_mem _ (List.mem_append_left _ (List.mem_append_left _ (List.mem_append_right _ (List.mem_append_right _ (List.mem_append_right _ (List.mem_append_right _ (List.mem_of_getElem? (i := 2) rfl)))))))), List.forall_mem_cons.mpr ⟨(List.mem_cons_of_mem _ (List.mem_append_left _ (List.mem_append_left _ (List.mem_append_right _ (List.mem_append_right _ (List.mem_append_right _ (List.mem_append_right _ (List.mem_of_getElem? (i := 3) rfl)))))))), List.forall_mem_cons.mpr ⟨(List.mem_cons_of_mem _ (List.mem_append_left _ (List.mem_append_left _ (List.mem_append_right _ (List.mem_append_right _ (List.mem_append_right _ (List.mem_append_right _ (List.mem_of_getElem? (i := 4) rfl)))))))), List.forall_mem_cons.mpr ⟨(List.mem_cons_of_mem _ (List.mem_append_left _ (List.mem_append_left _ (List.mem_append_right _ (List.mem_append_right _ (List.mem_append_right _ (List.mem_append_right _ (List.mem_of_getElem? (i := 5) rfl)))))))), List.forall_mem_cons.mpr ⟨(List.mem_cons_of_mem _ (List.mem_append_left _ (List.mem_append_left _ (List.mem_append_right _ (List.mem_append_right _ (List.mem_append_right _ (List.mem_append_right _ (List.mem_of_getElem? (i := 6) rfl)))))))), List.forall_mem_cons.mpr ⟨(List.mem_cons_of_mem _ (List.mem_append_left _ (List.mem_append_left _ (List.mem_append_right _ (List.mem_append_right _ (List.mem_append_right _ (List.mem_append_right _ (List.mem_of_getElem? (i := 7) rfl)))))))), List.forall_mem_cons.mpr ⟨(List.mem_cons_of_mem _ (List.mem_append_left _ (List.mem_append_left _ (List.mem_append_right _ (List.mem_append_right _ (List.mem_append_right _ (List.mem_append_right _ (List.mem_of_getElem? (i := 8) rfl)))))))), List.forall_mem_cons.mpr ⟨(List.mem_cons_of_mem _ (List.mem_append_left _ (List.mem_append_left _ (List.mem_append_right _ (List.mem_append_right _ (List.mem_append_right _ (List.mem_append_right _ (List.mem_of_getElem? (i := 9) rfl)))))))), List.forall_mem_cons.mpr ⟨(List.mem_cons_of_mem _ (List.mem_append_left _ (List.mem_append_left _ (List.mem_append_right _ (List.mem_append_right _ (List.mem_append_right _ (List.mem_append_right _ (List.mem_of_getElem? (i := 10) rfl)))))))), List.forall_mem_cons.mpr ⟨(List.mem_cons_of_mem _ (List.mem_append_left _ (List.mem_append_left _ (List.mem_append_right _ (List.mem_append_right _ (List.mem_append_right _ (List.mem_append_right _ (List.mem_of_getElem? (i := 11) rfl)))))))), List.forall_mem_cons.mpr ⟨(List.mem_cons_of_mem _ (List.mem_append_left _ (List.mem_append_left _ (List.mem_append_right _ (List.mem_append_right _ (List.mem_append_right _ (List.mem_append_right _ (List.mem_of_getElem? (i := 12) rfl)))))))), List.forall_mem_cons.mpr ⟨(List.mem_cons_of_mem _ (List.mem_append_left _ (List.mem_append_left _ (List.mem_append_right _ (List.mem_append_right _ (List.mem_append_right _ (List.mem_append_right _ (List.mem_of_getElem? (i := 13) rfl)))))))), List.forall_mem_cons.mpr ⟨(List.mem_cons_of_mem _ (List.mem_append_left _ (List.mem_append_left _ (List.mem_append_right _ (List.mem_append_right _ (List.mem_append_right _ (List.mem_append_right _ (List.mem_of_getElem? (i := 14) rfl)))))))), List.forall_mem_cons.mpr ⟨(List.mem_cons_of_mem _ (List.mem_append_left _ (List.mem_append_left _ (List.mem_append_left _ (List.mem_of_getElem? (i := 19) rfl))))), fun _ h => absurd h List.not_mem_nil⟩⟩⟩⟩⟩⟩⟩⟩⟩⟩⟩⟩⟩⟩⟩⟩⟩, fun _ h => (List.mem_cons_of_mem _ (List.mem_append_left _ (List.mem_append_right _ h)))⟩, fun _ h => (List.mem_cons_of_mem _ (List.mem_append_right _ h))⟩⟩) gw_wsX7_settle
set_option maxRecDepth 20000 in
theorem gX7_draw_X7_settle : GoodIn wsX7_draw (wsV RX7 53 RX7 yX7_settle wsX7_settle) := goodIn_app (goodIn_of _ (by decide +kernel)) ggX7_draw_X7_settle
theorem dX7_draw_0 : decode cX7_draw 0 = .ok (.aload_n 0, 1) := by decide +kernel
theorem dX7_draw_1 : decode cX7_draw 1 = .ok (.getfield 35, 3) := by decide +kernel
theorem dX7_draw_4 : decode cX7_draw 4 = .ok (.ifCond .eq 23, 3) := by decide +kernel
theorem dX7_draw_7 : decode cX7_draw 7 = .ok (.aload_n 0, 1) := by decide +kernel
theorem dX7_draw_8 : decode cX7_draw 8 = .ok (.getfield 32, 3) := by decide +kernel
theorem dX7_draw_11 : decode cX7_draw 11 = .ok (.iload_n 2, 1) := by decide +kernel
theorem dX7_draw_12 : decode cX7_draw 12 = .ok (.if_icmp .ne 15, 3) := by decide +kernel
theorem dX7_draw_15 : decode cX7_draw 15 = .ok (.aload_n 0, 1) := by decide +kernel
theorem dX7_draw_16 : decode cX7_draw 16 = .ok (.getfield 12, 3) := by decide +kernel
theorem dX7_draw_19 : decode cX7_draw 19 = .ok (.aload_n 1, 1) := by decide +kernel
theorem dX7_draw_20 : decode cX7_draw 20 = .ok (.invokevirtual 45, 3) := by decide +kernel
theorem dX7_draw_23 : decode cX7_draw 23 = .ok (.ifCond .eq 4, 3) := by decide +kernel
theorem dX7_draw_26 : decode cX7_draw 26 = .ok (.return_, 1) := by decide +kernel
theorem dX7_draw_27 : decode cX7_draw 27 = .ok (.aload_n 0, 1) := by decide +kernel
theorem dX7_draw_28 : decode cX7_draw 28 = .ok (.aload_n 1, 1) := by decide +kernel
theorem dX7_draw_29 : decode cX7_draw 29 = .ok (.iload_n 2, 1) := by decide +kernel
theorem dX7_draw_30 : decode cX7_draw 30 = .ok (.invokevirtual 49, 3) := by decide +kernel
theorem dX7_draw_33 : decode cX7_draw 33 = .ok (.iconst 0, 1) := by decide +kernel
theorem dX7_draw_34 : decode cX7_draw 34 = .ok (.istore_n 3, 1) := by decide +kernel
theorem dX7_draw_35 : decode cX7_draw 35 = .ok (.iload_n 3, 1) := by decide +kernel
theorem dX7_draw_36 : decode cX7_draw 36 = .ok (.aload_n 0, 1) := by decide +kernel
theorem dX7_draw_37 : decode cX7_draw 37 = .ok (.getfield 28, 3) := by decide +kernel
theorem dX7_draw_40 : decode cX7_draw 40 = .ok (.if_icmp .ge 14, 3) := by decide +kernel
theorem dX7_draw_43 : decode cX7_draw 43 = .ok (.aload_n 0, 1) := by decide +kernel
theorem dX7_draw_44 : decode cX7_draw 44 = .ok (.iload_n 3, 1) := by decide +kernel
theorem dX7_draw_45 : decode cX7_draw 45 = .ok (.invokevirtual 53, 3) := by decide +kernel
theorem dX7_draw_48 : decode cX7_draw 48 = .ok (.iinc 3 1, 3) := by decide +kernel
theorem dX7_draw_51 : decode cX7_draw 51 = .ok (.goto (-16), 3) := by decide +kernel
theorem dX7_draw_54 : decode cX7_draw 54 = .ok (.aload_n 0, 1) := by decide +kernel
theorem dX7_draw_55 : decode cX7_draw 55 = .ok (.iconst 1, 1) := by decide +kernel
theorem dX7_draw_56 : decode cX7_draw 56 = .ok (.putfield 35, 3) := by decide +kernel
theorem dX7_draw_59 : decode cX7_draw 59 = .ok (.return_, 1) := by decide +kernel
set_option maxRecDepth 20000 in
theorem ggX7_staysWithin_X7_begin : GoodIn wsX7_staysWithin wsX7_begin := goodIn_sub (List.forall_mem_cons.mpr ⟨(List.mem_cons_of_mem _ (List.mem_append_left _ (List.mem_append_left _ (List.mem_append_left _ (List.mem_of_getElem? (i := 8) rfl))))), List.forall_mem_append.mpr ⟨List.forall_mem_append.mpr ⟨List.forall_mem_append.mpr ⟨List.forall_mem_cons.mpr ⟨(List.mem_cons_of_mem _ (List.mem_append_left _ (List.mem_append_left _ (List.mem_append_left _ (List.mem_of_getElem? (i := 9) rfl))))), List.forall_mem_cons.mpr ⟨(List.mem_cons_of_mem _ (List.mem_append_left _ (List.mem_append_left _ (List.mem_append_left _ (List.mem_of_getElem? (i := 10) rfl))))), List.forall_mem_cons.mpr ⟨(List.mem_cons_of_mem _ (List.mem_append_left _ (List.mem_append_left _ (List.mem_append_left _ (List.mem_of_getElem? (i := 11) rfl))))), List.forall_mem_cons.mpr ⟨(List.mem_cons_of_mem _ (List.mem_append_left _ (List.mem_append_left _ (List.mem_append_left _ (List.mem_of_getElem? (i := 12) rfl))))), List.forall_mem_cons.mpr ⟨(List.mem_cons_of_mem _ (List.mem_append_left _ (List.mem_append_left _ (List.mem_append_left _ (List.mem_of_getElem? (i := 13) rfl))))), List.forall_mem_cons.mpr ⟨(List.mem_cons_of_mem _ (List.mem_append_left _ (List.mem_append_left _ (List.mem_append_left _ (List.mem_of_getElem? (i := 14) rfl))))), List.forall_mem_cons.mpr ⟨(List.mem_cons_of_mem _ (List.mem_append_left _ (List.mem_append_left _ (List.mem_append_left _ (List.mem_of_getElem? (i := 0) rfl))))), List.forall_mem_cons.mpr ⟨(List.mem_cons_of_mem _ (List.mem_append_left _ (List.mem_append_left _ (List.mem_append_left _ (List.mem_of_getElem? (i := 3) rfl))))), List.forall_mem_cons.mpr ⟨(List.mem_cons_of_mem _ (List.mem_append_left _ (List.mem_append_left _ (List.mem_append_left _ (List.mem_of_getElem? (i := 1) rfl))))), List.forall_mem_cons.mpr ⟨(List.mem_cons_of_mem _ (List.mem_append_left _ (List.mem_append_left _ (List.mem_append_left _ (List.mem_of_getElem? (i := 2) rfl))))), List.forall_mem_cons.mpr ⟨(List.mem_cons_of_mem _ (List.mem_append_left _ (List.mem_append_left _ (List.mem_append_left _ (List.mem_of_getElem? (i := 15) rfl))))), List.forall_mem_cons.mpr ⟨(List.mem_cons_of_mem _ (List.mem_append_left _ (List.mem_append_left _ (List.mem_append_left _ (List.mem_of_getElem? (i := 16) rfl))))), List.forall_mem_cons.mpr ⟨(List.mem_cons_of_mem _ (List.mem_append_left _ (List.mem_append_left _ (List.mem_append_left _ (List.mem_of_getElem? (i := 17) rfl))))), List.forall_mem_cons.mpr ⟨(List.mem_cons_of_mem _ (List.mem_append_left _ (List.mem_append_left _ (List.mem_append_left _ (List.mem_of_getElem? (i := 18) rfl))))), List.forall_mem_cons.mpr ⟨(List.mem_cons_of_mem _ (List.mem_append_left _ (List.mem_append_left _ (List.mem_append_left _ (List.mem_of_getElem? (i := 19) rfl))))), List.forall_mem_cons.mpr ⟨(List.mem_cons_of_mem _ (List.mem_append_left _ (List.mem_append_left _ (List.mem_append_left _ (List.mem_of_getElem? (i := 20) rfl))))), List.forall_mem_cons.mpr ⟨(List.mem_cons_of_mem _ (List.mem_append_left _ (List.mem_append_left _ (List.mem_append_left _ (List.mem_of_getElem? (i := 21) rfl))))), List.forall_mem_cons.mpr ⟨(List.mem_cons_of_mem _ (List.mem_append_left _ (List.mem_append_left _ (List.mem_append_left _ (List.mem_of_getElem? (i := 22) rfl))))), List.forall_mem_cons.mpr ⟨(List.mem_cons_of_mem _ (List.mem_append_left _ (List.mem_append_left _ (List.mem_append_left _ (List.mem_of_getElem? (i := 23) rfl))))), List.forall_mem_cons.mpr ⟨(List.mem_cons_of_mem _ (List.mem_append_left _ (List.mem_append_left _ (List.mem_append_right _ (List.mem_append_left _ (List.mem_of_getElem? (i := 0) rfl)))))), List.forall_mem_cons.mpr ⟨(List.mem_cons_of_mem _ (List.mem_append_left _ (List.mem_append_left _ (List.mem_append_right _ (List.mem_append_left _ (List.mem_of_getElem? (i := 1) rfl)))))), List.forall_mem_cons.mpr ⟨(List.mem_cons_of_mem _ (List.mem_append_left _ (List.mem_append_left _ (List.mem_append_right _ (List.mem_append_left _ (List.mem_of_getElem? (i := 2) rfl)))))), List.forall_mem_cons.mpr ⟨(List.mem_cons_of_mem _ (List.mem_append_left _ (List.mem_append_left _ (List.mem_append_right _ (List.mem_append_left _ (List.mem_of_getElem? (i := 3) rfl)))))), List.forall_mem_cons.mpr ⟨(List.mem_cons_of_mem _ (List.mem_append_left _ (List.mem_append_left _ (List.mem_append_right _ (List.mem_append_left _ (List.mem_of_getElem? (i := 4) rfl)))))), fun _ h => absurd h List.not_mem_nil⟩⟩⟩⟩⟩⟩⟩⟩⟩⟩⟩⟩⟩⟩⟩⟩⟩⟩⟩⟩⟩⟩⟩⟩, List.forall_mem_cons.mpr ⟨(List.mem_cons_of_mem _ (List.mem_append_left _ (List.mem_append_left _ (List.mem_append_right _ (List.mem_append_left _ (List.mem_of_getElem? (i := 5) rfl)))))), List.forall_mem_cons.mpr ⟨(List.mem_cons_of_mem _ (List.mem_append_left _ (List.mem_append_left _ (List.mem_append_right _ (List.mem_append_left _ (List.mem_of_getElem? (i := 6) rfl)))))), fun _ h => absurd h List.not_mem_nil⟩⟩⟩, fun _ h => (List.mem_cons_of_mem _ (List.mem_append_left _ (List.mem_append_right _ h)))⟩, fun _ h => (List.mem_cons_of_mem _ (List.mem_append_right _ h))⟩⟩) gw_wsX7_begin
set_option maxRecDepth 20000 in
theorem gX7_staysWithin_X7_begin : GoodIn wsX7_staysWithin (wsV RX7 49 RX7 yX7_begin wsX7_begin) := goodIn_app (goodIn_of _ (by decide +kernel)) ggX7_staysWithin_X7_begin
set_option maxRecDepth 20000 in
theorem ggX7_staysWithin_X7_settle : GoodIn wsX7_staysWithin wsX7_settle := goodIn_sub (List.forall_mem_cons.mpr ⟨(List.mem_cons_of_mem _ (List.mem_append_left _ (List.mem_append_left _ (List.mem_append_right _ (List.mem_append_left _ (List.mem_of_getElem? (i := 10) rfl)))))), List.forall_mem_append.mpr ⟨List.forall_mem_append.mpr ⟨List.forall_mem_append.mpr ⟨List.forall_mem_cons.mpr ⟨(List.mem_cons_of_mem _ (List.mem_append_left _ (List.mem_append_left _ (List.mem_append_left _ (List.mem_of_getElem? (i := 0) rfl))))), List.forall_mem_cons.mpr ⟨(List.mem_cons_of_mem _ (List.mem_append_left _ (List.mem_append_left _ (List.mem_append_left _ (List.mem_of_getElem? (i := 15) rfl))))), List.forall_mem_cons.mpr ⟨(List.mem_cons_of_mem _ (List.mem_append_left _ (List.mem_append_left _ (List.mem_append_left _ (List.mem_of_getElem? (i := 9) rfl))))), List.forall_mem_cons.mpr ⟨(List.mem_cons_of_mem _ (List.mem_append_left _ (List.mem_append_left _ (List.mem_append_left _ (List.mem_of_getElem? (i := 10) rfl))))), List.forall_mem_cons.mpr ⟨(List.mem_cons_of_mem _ (List.mem_append_left _ (List.mem_append_left _ (List.mem_append_right _ (List.mem_append_left _ (List.mem_of_getElem? (i := 11) rfl)))))), List.forall_mem_cons.mpr ⟨(List.mem_cons_of_mem _ (List.mem_append_left _ (List.mem_append_left _ (List.mem_append_right _ (List.mem_append_left _ (List.mem_of_getElem? (i := 12) rfl)))))), List.forall_mem_cons.mpr ⟨(List.mem_cons_of_mem _ (List.mem_append_left _ (List.mem_append_left _ (List.mem_append_right _ (List.mem_append_left _ (List.mem_of_getElem? (i := 13) rfl)))))), List.forall_mem_cons.mpr ⟨(List.mem_cons_of_mem _ (List.mem_append_left _ (List.mem_append_left _ (List.mem_append_right _ (List.mem_append_left _ (List.mem_of_getElem? (i := 14) rfl)))))), List.forall_mem_cons.mpr ⟨(List.mem_cons_of_mem _ (List.mem_append_left _ (List.mem_append_left _ (List.mem_append_right _ (List.mem_append_left _ (List.mem_of_getElem? (i := 15) rfl)))))), List.forall_mem_cons.mpr ⟨(List.mem_cons_of_mem _ (List.mem_append_left _ (List.mem_append_left _ (List.mem_append_left _ (List.mem_of_getElem? (i := 7) rfl))))), List.forall_mem_cons.mpr ⟨(List.mem_cons_of_mem _ (List.mem_append_left _ (List.mem_append_left _ (List.mem_append_right _ (List.mem_append_left _ (List.mem_of_getElem? (i := 16) rfl)))))), List.forall_mem_cons.mpr ⟨(List.mem_cons_of_mem _ (List.mem_append_left _ (List.mem_append_left _ (List.mem_append_right _ (List.mem_append_left _ (List.mem_of_getElem? (i := 17) rfl)))))), List.forall_mem_cons.mpr ⟨(List.mem_cons_of_mem _ (List.mem_append_left _ (List.mem_append_left _ (List.mem_append_right _ (List.mem_append_left _ (List.mem_of_getElem? (i := 18) rfl)))))), List.forall_mem_cons.mpr ⟨(List.mem_cons_of_mem _ (List.mem_append_left _ (List.mem_append_left _ (List.mem_append_right _ (List.mem_append_left _ (List.mem_of_getElem? (i := 19) rfl)))))), List.forall_mem_cons.mpr ⟨(List.mem_cons_of_mem _ (List.mem_append_left _ (List.mem_append_left _ (List.mem_append_left _ (List.mem_of_getElem? (i := 19) rfl))))), List.forall_mem_cons.mpr ⟨(List.mem_cons_of_mem _ (List.mem_append_left _ (List.mem_append_left _ (List.mem_append_right _ (List.mem_append_left _ (List.mem_of_getElem? (i := 20) rfl)))))), List.forall_mem_cons.mpr ⟨(List.mem_cons_of_mem _ (List.mem_append_left _ (List.mem_append_left _ (List.mem_append_left _ (List.mem_of_getElem? (i := 21) rfl))))), List.forall_mem_cons.mpr ⟨(List.mem_cons_of_mem _ (List.mem_append_left _ (List.mem_append_left _ (List.mem_append_right _ (List.mem_append_left _ (List.mem_of_getElem? (i := 21) rfl)))))), List.forall_mem_cons.mpr ⟨(List.mem_cons_of_mem _ (List.mem_append_left _ (List.mem_append_left _ (List.mem_append_left _ (List.mem_of_getElem? (i := 12) rfl))))), List.forall_mem_cons.mpr ⟨(List.mem_cons_of_mem _ (List.mem_append_left _ (List.mem_append_left _ (List.mem_append_left _ (List.mem_of_getElem? (i := 13) rfl))))), List.forall_mem_cons.mpr ⟨(List.mem_cons_of_mem _ (List.mem_append_left _ (List.mem_append_left _ (List.mem_append_left _ (List.mem_of_getElem? (i := 14) rfl))))), List.forall_mem_cons.mpr ⟨(List.mem_cons_of_mem _ (List.mem_append_left _ (List.mem_append_left _ (List.mem_append_right _ (List.mem_append_left _ (List.mem_of_getElem? (i := 2) rfl)))))), List.forall_mem_cons.mpr ⟨(List.mem_cons_of_mem _ (List.mem_append_left _ (List.mem_append_left _ (List.mem_append_right _ (List.mem_append_left _ (List.mem_of_getElem? (i := 22) rfl)))))), List.forall_mem_cons.mpr ⟨(List.mem_cons_of_mem _ (List.mem_append_left _ (List.mem_append_left _ (List.mem_append_right _ (List.mem_append_left _ (List.mem_of_getElem? (i := 23) rfl)))))), fun _ h => absurd h List.not_mem_nil⟩⟩⟩⟩⟩⟩⟩⟩⟩⟩⟩⟩⟩⟩⟩⟩⟩⟩⟩⟩⟩⟩⟩⟩, List.forall_mem_append.mpr ⟨List.forall_mem_cons.mpr ⟨(List.mem_cons_of_mem _ (List.mem_append_left _ (List.mem_append_left _ (List.mem_append_right _ (List.mem_append_right _ (List.mem_append_left _ (List.mem_of_getElem? (i := 0) rfl))))))), List.forall_mem_cons.mpr ⟨(List.mem_cons_of_mem _ (List.mem_append_left _ (List.mem_append_left _ (List.mem_append_right _ (List.mem_append_right _ (List.mem_append_left _ (List.mem_of_getElem? (i := 1) rfl))))))), List.forall_mem_cons.mpr ⟨(List.mem_cons_of_mem _ (List.mem_append_left _ (List.mem_append_left _ (List.mem_append_right _ (List.mem_append_right _ (List.mem_append_left _ (List.mem_of_getElem? (i := 2) rfl))))))), List.forall_mem_cons.mpr ⟨(List.mem_cons_of_mem _ (List.mem_append_left _ (List.mem_append_left _ (List.mem_append_right _ (List.mem_append_right _ (List.mem_append_left _ (List.mem_of_getElem? (i := 3) rfl))))))), List.forall_mem_cons.mpr ⟨(List.mem_cons_of_mem _ (List.mem_append_left _ (List.mem_append_left _ (List.mem_append_right _ (List.mem_append_right _ (List.mem_append_left _ (List.mem_of_getElem? (i := 4) rfl))))))), List.forall_mem_cons.mpr ⟨(List.mem_cons_of_mem _ (List.mem_append_left _ (List.mem_append_left _ (List.mem_append_right _ (List.mem_append_right _ (List.mem_append_left _ (List.mem_of_getElem? (i := 5) rfl))))))), List.forall_mem_cons.mpr ⟨(List.mem_cons_of_mem _ (List.mem_append_left _ (List.mem_append_left _ (List.mem_append_right _ (List.mem_append_right _ (List.mem_append_left _ (List.mem_of_getElem? (i := 6) rfl))))))), List.forall_mem_cons.mpr ⟨(List.mem_cons_of_mem _ (List.mem_append_left _ (List.mem_append_left _ (List.mem_append_right _ (List.mem_append_right _ (List.mem_append_left _ (List.mem_of_getElem? (i := 7) rfl))))))), List.forall_mem_cons.mpr ⟨(List.mem_cons_of_mem _ (List.mem_append_left _ (List.mem_append_left _ (List.mem_append_right _ (List.mem_append_right _ (List.mem_append_left _ (List.mem_of_getElem? (i := 8) rfl))))))), List.forall_mem_cons.mpr ⟨(List.mem_cons_of_mem _ (List.mem_append_left _ (List.mem_append_left _ (List.mem_append_right _ (List.mem_append_right _ (List.mem_append_left _ (List.mem_of_getElem? (i := 9) rfl))))))), List.forall_mem_cons.mpr ⟨(List.mem_cons_of_mem _ (List.mem_append_left _ (List.mem_append_left _ (List.mem_append_right _ (List.mem_append_right _ (List.mem_append_left _ (List.mem_of_getElem? (i := 10) rfl))))))), List.forall_mem_cons.mpr ⟨(List.mem_cons_of_mem _ (List.mem_append_left _ (List.mem_append_left _ (List.mem_append_right _ (List.mem_append_right _ (List.mem_append_left _ (List.mem_of_getElem? (i := 11) rfl))))))), List.forall_mem_cons.mpr ⟨(List.mem_cons_of_mem _ (List.mem_append_left _ (List.mem_append_left _ (List.mem_append_right _ (List.mem_append_right _ (List.mem_append_left _ (List.mem_of_getElem? (i := 12) rfl))))))), List.forall_mem_cons.mpr ⟨(List.mem_cons_of_mem _ (List.mem_append_left _ (List.mem_append_left _ (List.mem_append_right _ (List.mem_append_right _ (List.mem_append_left _ (List.mem_of_getElem? (i := 13) rfl))))))), List.forall_mem_cons.mpr ⟨(List.mem_cons_of_mem _ (List.mem_append_left _ (List.mem_append_left _ (List.mem_append_right _ (List.mem_append_right _ (List.mem_append_left _ (List.mem_of_getElem? (i := 14) rfl))))))), List.forall_mem_cons.mpr ⟨(List.mem_cons_of_mem _ (List.mem_append_left _ (List.mem_append_left _ (List.mem_append_right _ (List.mem_append_right _ (List.mem_append_left _ (List.mem_of_getElem? (i := 15) rfl))))))), List.forall_mem_cons.mpr ⟨(List.mem_cons_of_mem _ (List.mem_append_left _ (List.mem_append_left _ (List.mem_append_right _ (List.mem_append_right _ (List.mem_append_left _ (List.mem_of_getElem? (i := 16) rfl))))))), List.forall_mem_cons.mpr ⟨(List.mem_cons_of_mem _ (List.mem_append_left _ (List.mem_append_left _ (List.mem_append_right _ (List.mem_append_right _ (List.mem_append_left _ (List.mem_of_getElem? (i := 17) rfl))))))), List.forall_mem_cons.mpr ⟨(List.mem_cons_of_mem _ (List.mem_append_left _ (List.mem_append_left _ (List.mem_append_right _ (List.mem_append_right _ (List.mem_append_left _ (List.mem_of_getElem? (i := 18) rfl))))))), List.forall_mem_cons.mpr ⟨(List.mem_cons_of_mem _ (List.mem_append_left _ (List.mem_append_left _ (List.mem_append_right _ (List.mem_append_right _ (List.mem_append_left _ (List.mem_of_getElem? (i := 19) rfl))))))), List.forall_mem_cons.mpr ⟨(List.mem_cons_of_mem _ (List.mem_append_left _ (List.mem_append_left _ (List.mem_append_right _ (List.mem_append_right _ (List.mem_append_left _ (List.mem_of_getElem? (i := 20) rfl))))))), List.forall_mem_cons.mpr ⟨(List.mem_cons_of_mem _ (List.mem_append_left _ (List.mem_append_left _ (List.mem_append_right _ (List.mem_append_right _ (List.mem_append_left _ (List.mem_of_getElem? (i := 21) rfl))))))), List.forall_mem_cons.mpr ⟨(List.mem_cons_of_mem _ (List.mem_append_left _ (List.mem_append_left _ (List.mem_append_right _ (List.mem_append_right _ (List.mem_append_left _ (List.mem_of_getElem? (i := 22) rfl))))))), List.forall_mem_cons.mpr ⟨(List.mem_cons_of_mem _ (List.mem_append_left _ (List.mem_append_left _ (List.mem_append_right _ (List.mem_append_right _ (List.mem_append_left _ (List.mem_of_getElem? (i := 23) rfl))))))), fun _ h => absurd h List.not_mem_nil⟩⟩⟩⟩⟩⟩⟩⟩⟩⟩⟩⟩⟩⟩⟩⟩⟩⟩⟩⟩⟩⟩⟩⟩, List.forall_mem_append.mpr ⟨List.forall_mem_cons.mpr ⟨(List.mem_cons_of_mem _ (List.mem_append_left _ (List.mem_append_left _ (List.mem_append_right _ (List.mem_append_right _ (List.mem_append_right _ (List.mem_append_left _ (List.mem_of_getElem? (i := 0) rfl)))))))), List.forall_mem_cons.mpr ⟨(List.mem_cons_of_mem _ (List.mem_append_left _ (List.mem_append_left _ (List.mem_append_right _ (List.mem_append_right _ (List.mem_append_right _ (List.mem_append_left _ (List.mem_of_getElem? (i := 1) rfl)))))))), List.forall_mem_cons.mpr ⟨(List.mem_cons_of_mem _ (List.mem_append_left _ (List.mem_append_left _ (List.mem_append_right _ (List.mem_append_right _ (List.mem_append_right _ (List.mem_append_left _ (List.mem_of_getElem? (i := 2) rfl)))))))), List.forall_mem_cons.mpr ⟨(List.mem_cons_of_mem _ (List.mem_append_left _ (List.mem_append_left _ (List.mem_append_right _ (List.mem_append_right _ (List.mem_append_right _ (List.mem_append_left _ (List.mem_of_getElem? (i := 3) rfl)))))))), List.forall_mem_cons.mpr ⟨(List.mem_cons_of_mem _ (List.mem_append_left _ (List.mem_append_left _ (List.mem_append_right _ (List.mem_append_right _ (List.mem_append_right _ (List.mem_append_left _ (List.mem_of_getElem? (i := 4) rfl)))))))), List.forall_mem_cons.mpr ⟨(List.mem_cons_of_mem _ (List.mem_append_left _ (List.mem_append_left _ (List.mem_append_right _ (List.mem_append_right _ (List.mem_append_right _ (List.mem_append_left _ (List.mem_of_getElem? (i := 5) rfl)))))))), List.forall_mem_cons.mpr ⟨(List.mem_cons_of_mem _ (List.mem_append_left _ (List.mem_append_left _ (List.mem_append_right _ (List.mem_append_right _ (List.mem_append_right _ (List.mem_append_left _ (List.mem_of_getElem? (i := 6) rfl)))))))), List.forall_mem_cons.mpr ⟨(List.mem_cons_of_mem _ (List.mem_append_left _ (List.mem_append_left _ (List.mem_append_right _ (List.mem_append_right _ (List.mem_append_right _ (List.mem_append_left _ (List.mem_of_getElem? (i := 7) rfl)))))))), List.forall_mem_cons.mpr ⟨(List.mem_cons_of_mem _ (List.mem_append_left _ (List.mem_append_left _ (List.mem_append_right _ (List.mem_append_right _ (List.mem_append_right _ (List.mem_append_left _ (List.mem_of_getElem? (i := 8) rfl)))))))), List.forall_mem_cons.mpr ⟨(List.mem_cons_of_mem _ (List.mem_append_left _ (List.mem_append_left _ (List.mem_append_right _ (List.mem_append_right _ (List.mem_append_right _ (List.mem_append_left _ (List.mem_of_getElem? (i := 9) rfl)))))))), List.forall_mem_cons.mpr ⟨(List.mem_cons_of_mem _ (List.mem_append_left _ (List.mem_append_left _ (List.mem_append_right _ (List.mem_append_right _ (List.mem_append_right _ (List.mem_append_left _ (List.mem_of_getElem? (i := 10) rfl)))))))), List.forall_mem_cons.mpr ⟨(List.mem_cons_of_mem _ (List.mem_append_left _ (List.mem_append_left _ (List.mem_append_right _ (List.mem_append_right _ (List.mem_append_right _ (List.mem_append_left _ (List.mem_of_getElem? (i := 11) rfl)))))))), List.forall_mem_cons.mpr ⟨(List.mem_cons_of_mem _ (List.mem_append_left _ (List.mem_append_left _ (List.mem_append_right _ (List.mem_append_right _ (List.mem_append_right _ (List.mem_append_left _ (List.mem_of_getElem? (i := 12) rfl)))))))), List.forall_mem_cons.mpr ⟨(List.mem_cons_of_mem _ (List.mem_append_left _ (List.mem_append_left _ (List.mem_append_right _ (List.mem_append_right _ (List.mem_append_right _ (List.mem_append_left _ (List.mem_of_getElem? (i := 13) rfl)))))))), List.forall_mem_cons.mpr ⟨(List.mem_cons_of_mem _ (List.mem_append_left _ (List.mem_append_left _ (List.mem_append_right _ (List.mem_append_right _ (List.mem_append_right _ (List.mem_append_left _ (List.mem_of_getElem? (i := 14) rfl)))))))), List.forall_mem_cons.mpr ⟨(List.mem_cons_of_mem _ (List.mem_append_left _ (List.mem_append_left _ (List.mem_append_right _ (List.mem_append_right _ (List.mem_append_right _ (List.mem_append_left _ (List.mem_of_getElem? (i := 15) rfl)))))))), List.forall_mem_cons.mpr ⟨(List.mem_cons_of_mem _ (List.mem_append_left _ (List.mem_append_left _ (List.mem_append_right _ (List.mem_append_right _ (List.mem_append_right _ (List.mem_append_left _ (List.mem_of_getElem? (i := 16) rfl)))))))), List.forall_mem_cons.mpr ⟨(List.mem_cons_of_mem _ (List.mem_append_left _ (List.mem_append_left _ (List.mem_append_right _ (List.mem_append_right _ (List.mem_append_right _ (List.mem_append_left _ (List.mem_of_getElem? (i := 17) rfl)))))))), List.forall_mem_cons.mpr ⟨(List.mem_cons_of_mem _ (List.mem_append_left _ (List.mem_append_left _ (List.mem_append_right _ (List.mem_append_right _ (List.mem_append_right _ (List.mem_append_left _ (List.mem_of_getElem? (i := 18) rfl)))))))), List.forall_mem_cons.mpr ⟨(List.mem_cons_of_mem _ (List.mem_append_left _ (List.mem_append_left _ (List.mem_append_right _ (List.mem_append_right _ (List.mem_append_right _ (List.mem_append_left _ (List.mem_of_getElem? (i := 19) rfl)))))))), List.forall_mem_cons.mpr ⟨(List.mem_cons_of_mem _ (List.mem_append_left _ (List.mem_append_left _ (List.mem_append_left _ (List.mem_of_getElem? (i := 11) rfl))))), List.forall_mem_cons.mpr ⟨(List.mem_cons_of_mem _ (List.mem_append_left _ (List.mem_append_left _ (List.mem_append_left _ (List.mem_of_getElem? (i := 2) rfl))))), List.forall_mem_cons.mpr ⟨(List.mem_cons_of_mem _ (List.mem_append_left _ (List.mem_append_left _ (List.mem_append_right _ (List.mem_append_right _ (List.mem_append_right _ (List.mem_append_left _ (List.mem_of_getElem? (i := 20) rfl)))))))), List.forall_mem_cons.mpr ⟨(List.mem_cons_of_mem _ (List.mem_append_left _ (List.mem_append_left _ (List.mem_append_right _ (List.mem_append_right _ (List.mem_append_right _ (List.mem_append_left _ (List.mem_of_getElem? (i := 21) rfl)))))))), fun _ h => absurd h List.not_mem_nil⟩⟩⟩⟩⟩⟩⟩⟩⟩⟩⟩⟩⟩⟩⟩⟩⟩⟩⟩⟩⟩⟩⟩⟩, List.forall_mem_cons.mpr ⟨(List.mem_cons_of_mem _ (List.mem_append_left _ (List.mem_append_left _ (List.mem_append_right _ (List.mem_append_right _ (List.mem_append_right _ (List.mem_append_left _ (List.mem_of_getElem? (i := 22) rfl)))))))), List.forall_mem_cons.mpr ⟨(List.mem_cons_of_mem _ (List.mem_append_left _ (List.mem_append_left _ (List.mem_append_right _ (List.mem_append_right _ (List.mem_append_right _ (List.mem_append_left _ (List.mem_of_getElem? (i := 23) rfl)))))))), List.forall_mem_cons.mpr ⟨(List.mem_cons_of_mem _ (List.mem_append_left _ (List.mem_append_left _ (List.mem_append_right _ (List.mem_append_right _ (List.mem_append_right _ (List.mem_append_right _ (List.mem_of_getElem? (i := 0) rfl)))))))), List.forall_mem_cons.mpr ⟨(List.mem_cons_of_mem _ (List.mem_append_left _ (List.mem_append_left _ (List.mem_append_right _ (List.mem_append_right _ (List.mem_append_right _ (List.mem_append_right _ (List.mem_of_getElem? (i := 1) rfl)))))))), List.forall_mem_cons.mpr ⟨(List.mem_cons_of_mem _ (List.mem_append_left _ (List.mem_append_left _ (List.mem_append_right _ (List.mem_append_right _ (List.mem_append_right _ (List.mem_append_right _ (List.mem_of_getElem? (i := 2) rfl)))))))), List.forall_mem_cons.mpr ⟨(List.mem_cons_of_mem _ (List.mem_append_left _ (List.mem_append_left _ (List.mem_append_right _ (List.mem_append_right _ (List.mem_append_right _ (List.mem_append_right _ (List.mem_of_getElem? (i := 3) rfl)))))))), List.forall_mem_cons.mpr ⟨(List.mem_cons_of_mem _ (List.mem_append_left _ (List.mem_append_left _ (List.mem_append_right _ (List.mem_append_right _ (List.mem_append_right _ (List.mem_append_right _ (List.mem_of_getElem? (i := 4) rfl)))))))), List.forall_mem_cons.mpr ⟨(List.mem_cons_of_mem _ (List.mem_append_left _ (List.mem_append_left _ (List.mem_append_right _ (List.mem_append_right _ (List.mem_append_right _ (List.mem_append_right _ (List.mem_of_getElem? (i := 5) rfl)))))))), List.forall_mem_cons.mpr ⟨(List.mem_cons_of_mem _ (List.mem_append_left _ (List.mem_append_left _ (List.mem_append_right _ (List.mem_append_right _ (List.mem_append_right _ (List.mem_append_right _ (List.mem_of_getElem? (i := 6) rfl)))))))), List.forall_mem_cons.mpr ⟨(List.mem_cons_of_mem _ (List.mem_append_left _ (List.mem_append_left _ (List.mem_append_right _ (List.mem_append_right _ (List.mem_append_right _ (List.mem_append_right _ (List.mem_of_getElem? (i := 7) rfl)))))))), List.forall_mem_cons.mpr ⟨(List.mem_cons_of_mem _ (List.mem_append_left _ (List.mem_append_left _ (List.mem_append_right _ (List.mem_append_right _ (List.mem_append_right _ (List.mem_append_right _ (List.mem_of_getElem? (i := 8) rfl)))))))), List.forall_mem_cons.mpr ⟨(List.mem_cons_of_mem _ (List.mem_append_left _ (List.mem_append_left _ (List.mem_append_right _ (List.mem_append_right _ (List.mem_append_right _ (List.mem_append_right _ (List.mem_of_getElem? (i := 9) rfl)))))))), List.forall_mem_cons.mpr ⟨(List.mem_cons_of_mem _ (List.mem_append_left _ (List.mem_append_left _ (List.mem_append_right _ (List.mem_append_right _ (List.mem_append_right _ (List.mem_append_right _ (List.mem_of_getElem? (i := 10) rfl)))))))), List.forall_mem_cons.mpr ⟨(List.mem_cons_of_mem _ (List.mem_append_left _ (List.mem_append_left _ (List.mem_append_left _ (List.mem_of_getElem? (i := 1) rfl))))), fun _ h => absurd h List.not_mem_nil⟩⟩⟩⟩⟩⟩⟩⟩⟩⟩⟩⟩⟩⟩⟩⟩⟩, fun _ h => (List.mem_cons_of_mem _ (List.mem_append_left _ (List.mem_append_right _ h)))⟩, fun _ h => (List.mem_cons_of_mem _ (List.mem_append_right _ h))⟩⟩) gw_wsX7_settle
set_option maxRecDepth 20000 in
theorem gX7_staysWithin_X7_settle : GoodIn wsX7_staysWithin (wsV RX7 53 RX7 yX7_settle wsX7_settle) := goodIn_app (goodIn_of _ (by decide +kernel)) ggX7_staysWithin_X7_settle
theorem dX7_staysWithin_0 : decode cX7_staysWithin 0 = .ok (.aload_n 0, 1) := by decide +kernel
theorem dX7_staysWithin_1 : decode cX7_staysWithin 1 = .ok (.aload_n 1, 1) := by decide +kernel
theorem dX7_staysWithin_2 : decode cX7_staysWithin 2 = .ok (.iload_n 2, 1) := by decide +kernel
theorem dX7_staysWithin_3 : decode cX7_staysWithin 3 = .ok (.invokevirtual 49, 3) := by decide +kernel
theorem dX7_staysWithin_6 : decode cX7_staysWithin 6 = .ok (.iconst 0, 1) := by decide +kernel
theorem dX7_staysWithin_7 : decode cX7_staysWithin 7 = .ok (.istore 4, 2) := by decide +kernel
theorem dX7_staysWithin_9 : decode cX7_staysWithin 9 = .ok (.iload 4, 2) := by decide +kernel
theorem dX7_staysWithin_11 : decode cX7_staysWithin 11 = .ok (.aload_n 0, 1) := by decide +kernel
theorem dX7_staysWithin_12 : decode cX7_staysWithin 12 = .ok (.getfield 28, 3) := by decide +kernel
theorem dX7_staysWithin_15 : decode cX7_staysWithin 15 = .ok (.if_icmp .ge 32, 3) := by decide +kernel
theorem dX7_staysWithin_18 : decode cX7_staysWithin 18 = .ok (.aload_n 0, 1) := by decide +kernel
theorem dX7_staysWithin_19 : decode cX7_staysWithin 19 = .ok (.iload 4, 2) := by decide +kernel
theorem dX7_staysWithin_21 : decode cX7_staysWithin 21 = .ok (.invokevirtual 53, 3) := by decide +kernel
theorem dX7_staysWithin_24 : decode cX7_staysWithin 24 = .ok (.aload_n 0, 1) := by decide +kernel
theorem dX7_staysWithin_25 : decode cX7_staysWithin 25 = .ok (.getfield 39, 3) := by decide +kernel
theorem dX7_staysWithin_28 : decode cX7_staysWithin 28 = .ok (.ifCond .ne 11, 3) := by decide +kernel
theorem dX7_staysWithin_31 : decode cX7_staysWithin 31 = .ok (.aload_n 0, 1) := by decide +kernel
theorem dX7_staysWithin_32 : decode cX7_staysWithin 32 = .ok (.getfield 42, 3) := by decide +kernel
theorem dX7_staysWithin_35 : decode cX7_staysWithin 35 = .ok (.iload_n 3, 1) := by decide +kernel
theorem dX7_staysWithin_36 : decode cX7_staysWithin 36 = .ok (.if_icmp .le 5, 3) := by decide +kernel
theorem dX7_staysWithin_39 : decode cX7_staysWithin 39 = .ok (.iconst 0, 1) := by decide +kernel
theorem dX7_staysWithin_40 : decode cX7_staysWithin 40 = .ok (.ireturn, 1) := by decide +kernel
theorem dX7_staysWithin_41 : decode cX7_staysWithin 41 = .ok (.iinc 4 1, 3) := by decide +kernel
theorem dX7_staysWithin_44 : decode cX7_staysWithin 44 = .ok (.goto (-35), 3) := by decide +kernel
theorem dX7_staysWithin_47 : decode cX7_staysWithin 47 = .ok (.aload_n 0, 1) := by decide +kernel
theorem dX7_staysWithin_48 : decode cX7_staysWithin 48 = .ok (.iconst 1, 1) := by decide +kernel
theorem dX7_staysWithin_49 : decode cX7_staysWithin 49 = .ok (.putfield 35, 3) := by decide +kernel
theorem dX7_staysWithin_52 : decode cX7_staysWithin 52 = .ok (.iconst 1, 1) := by decide +kernel
theorem dX7_staysWithin_53 : decode cX7_staysWithin 53 = .ok (.ireturn, 1) := by decide +kernel
set_option maxRecDepth 20000 in
theorem gw_wsX3_take : wsX3_take.all goodWord = true := by decide +kernel
set_option maxRecDepth 20000 in
theorem ggX7_begin_X3_take : GoodIn wsX7_begin wsX3_take := goodIn_sub (List.forall_mem_cons.mpr ⟨(List.mem_cons_of_mem _ (List.mem_append_left _ (List.mem_append_left _ (List.mem_append_left _ (List.mem_of_getElem? (i := 15) rfl))))), List.forall_mem_append.mpr ⟨List.forall_mem_cons.mpr ⟨(List.mem_cons_of_mem _ (List.mem_append_left _ (List.mem_append_left _ (List.mem_append_left _ (List.mem_of_getElem? (i := 16) rfl))))), List.forall_mem_cons.mpr ⟨(List.mem_cons_of_mem _ (List.mem_append_left _ (List.mem_append_left _ (List.mem_append_left _ (List.mem_of_getElem? (i := 17) rfl))))), List.forall_mem_cons.mpr ⟨(List.mem_cons_of_mem _ (List.mem_append_left _ (List.mem_append_left _ (List.mem_append_left _ (List.mem_of_getElem? (i := 18) rfl))))), List.forall_mem_cons.mpr ⟨(List.mem_cons_of_mem _ (List.mem_append_left _ (List.mem_append_left _ (List.mem_append_left _ (List.mem_of_getElem? (i := 19) rfl))))), List.forall_mem_cons.mpr ⟨(List.mem_cons_of_mem _ (List.mem_append_left _ (List.mem_append_left _ (List.mem_append_left _ (List.mem_of_getElem? (i := 20) rfl))))), List.forall_mem_cons.mpr ⟨(List.mem_cons_of_mem _ (List.mem_append_left _ (List.mem_append_left _ (List.mem_append_left _ (List.mem_of_getElem? (i := 21) rfl))))), fun _ h => absurd h List.not_mem_nil⟩⟩⟩⟩⟩⟩, fun _ h => (List.mem_cons_of_mem _ (List.mem_append_right _ h))⟩⟩) gw_wsX3_take
set_option maxRecDepth 20000 in
theorem gX7_begin_X3_take : GoodIn wsX7_begin (wsV RX7 57 RX3 yX3_take wsX3_take) := goodIn_app (goodIn_of _ (by decide +kernel)) ggX7_begin_X3_take
set_option maxRecDepth 20000 in
theorem gw_wsX3_howManyPasts : wsX3_howManyPasts.all goodWord = true := by decide +kernel
set_option maxRecDepth 20000 in
theorem ggX7_begin_X3_howManyPasts : GoodIn wsX7_begin wsX3_howManyPasts := goodIn_sub (List.forall_mem_cons.mpr ⟨(List.mem_cons_of_mem _ (List.mem_append_left _ (List.mem_append_left _ (List.mem_append_right _ (List.mem_of_getElem? (i := 1) rfl))))), List.forall_mem_append.mpr ⟨List.forall_mem_cons.mpr ⟨(List.mem_cons_of_mem _ (List.mem_append_left _ (List.mem_append_left _ (List.mem_append_left _ (List.mem_of_getElem? (i := 16) rfl))))), fun _ h => absurd h List.not_mem_nil⟩, fun _ h => (List.mem_cons_of_mem _ (List.mem_append_right _ h))⟩⟩) gw_wsX3_howManyPasts
set_option maxRecDepth 20000 in
theorem gX7_begin_X3_howManyPasts : GoodIn wsX7_begin (wsV RX7 61 RX3 yX3_howManyPasts wsX3_howManyPasts) := goodIn_app (goodIn_of _ (by decide +kernel)) ggX7_begin_X3_howManyPasts
theorem dX7_begin_0 : decode cX7_begin 0 = .ok (.aload_n 0, 1) := by decide +kernel
theorem dX7_begin_1 : decode cX7_begin 1 = .ok (.getfield 12, 3) := by decide +kernel
theorem dX7_begin_4 : decode cX7_begin 4 = .ok (.aload_n 1, 1) := by decide +kernel
theorem dX7_begin_5 : decode cX7_begin 5 = .ok (.invokevirtual 57, 3) := by decide +kernel
theorem dX7_begin_8 : decode cX7_begin 8 = .ok (.aload_n 0, 1) := by decide +kernel
theorem dX7_begin_9 : decode cX7_begin 9 = .ok (.iload_n 2, 1) := by decide +kernel
theorem dX7_begin_10 : decode cX7_begin 10 = .ok (.putfield 32, 3) := by decide +kernel
theorem dX7_begin_13 : decode cX7_begin 13 = .ok (.aload_n 0, 1) := by decide +kernel
theorem dX7_begin_14 : decode cX7_begin 14 = .ok (.aload_n 0, 1) := by decide +kernel
theorem dX7_begin_15 : decode cX7_begin 15 = .ok (.getfield 12, 3) := by decide +kernel
theorem dX7_begin_18 : decode cX7_begin 18 = .ok (.invokevirtual 61, 3) := by decide +kernel
theorem dX7_begin_21 : decode cX7_begin 21 = .ok (.sipush 1024, 3) := by decide +kernel
theorem dX7_begin_24 : decode cX7_begin 24 = .ok (.invokestatic 65, 3) := by decide +kernel
theorem dX7_begin_27 : decode cX7_begin 27 = .ok (.putfield 28, 3) := by decide +kernel
theorem dX7_begin_30 : decode cX7_begin 30 = .ok (.aload_n 0, 1) := by decide +kernel
theorem dX7_begin_31 : decode cX7_begin 31 = .ok (.iconst 0, 1) := by decide +kernel
theorem dX7_begin_32 : decode cX7_begin 32 = .ok (.putfield 35, 3) := by decide +kernel
theorem dX7_begin_35 : decode cX7_begin 35 = .ok (.aload_n 0, 1) := by decide +kernel
theorem dX7_begin_36 : decode cX7_begin 36 = .ok (.iconst 0, 1) := by decide +kernel
theorem dX7_begin_37 : decode cX7_begin 37 = .ok (.putfield 39, 3) := by decide +kernel
theorem dX7_begin_40 : decode cX7_begin 40 = .ok (.aload_n 0, 1) := by decide +kernel
theorem dX7_begin_41 : decode cX7_begin 41 = .ok (.iconst (-1), 1) := by decide +kernel
theorem dX7_begin_42 : decode cX7_begin 42 = .ok (.putfield 42, 3) := by decide +kernel
theorem dX7_begin_45 : decode cX7_begin 45 = .ok (.iconst 0, 1) := by decide +kernel
theorem dX7_begin_46 : decode cX7_begin 46 = .ok (.istore_n 3, 1) := by decide +kernel
theorem dX7_begin_47 : decode cX7_begin 47 = .ok (.iload_n 3, 1) := by decide +kernel
theorem dX7_begin_48 : decode cX7_begin 48 = .ok (.aload_n 0, 1) := by decide +kernel
theorem dX7_begin_49 : decode cX7_begin 49 = .ok (.getfield 28, 3) := by decide +kernel
theorem dX7_begin_52 : decode cX7_begin 52 = .ok (.if_icmp .ge 16, 3) := by decide +kernel
theorem dX7_begin_55 : decode cX7_begin 55 = .ok (.aload_n 0, 1) := by decide +kernel
theorem dX7_begin_56 : decode cX7_begin 56 = .ok (.getfield 22, 3) := by decide +kernel
theorem dX7_begin_59 : decode cX7_begin 59 = .ok (.iload_n 3, 1) := by decide +kernel
theorem dX7_begin_60 : decode cX7_begin 60 = .ok (.iconst (-1), 1) := by decide +kernel
theorem dX7_begin_61 : decode cX7_begin 61 = .ok (.iastore, 1) := by decide +kernel
theorem dX7_begin_62 : decode cX7_begin 62 = .ok (.iinc 3 1, 3) := by decide +kernel
theorem dX7_begin_65 : decode cX7_begin 65 = .ok (.goto (-18), 3) := by decide +kernel
theorem dX7_begin_68 : decode cX7_begin 68 = .ok (.return_, 1) := by decide +kernel
theorem dX7_is_0 : decode cX7_is 0 = .ok (.iload_n 1, 1) := by decide +kernel
theorem dX7_is_1 : decode cX7_is 1 = .ok (.ifCond .lt 22, 3) := by decide +kernel
theorem dX7_is_4 : decode cX7_is 4 = .ok (.iload_n 1, 1) := by decide +kernel
theorem dX7_is_5 : decode cX7_is 5 = .ok (.aload_n 0, 1) := by decide +kernel
theorem dX7_is_6 : decode cX7_is 6 = .ok (.getfield 28, 3) := by decide +kernel
theorem dX7_is_9 : decode cX7_is 9 = .ok (.if_icmp .ge 14, 3) := by decide +kernel
theorem dX7_is_12 : decode cX7_is 12 = .ok (.iload_n 1, 1) := by decide +kernel
theorem dX7_is_13 : decode cX7_is 13 = .ok (.sipush 1024, 3) := by decide +kernel
theorem dX7_is_16 : decode cX7_is 16 = .ok (.if_icmp .ge 7, 3) := by decide +kernel
theorem dX7_is_19 : decode cX7_is 19 = .ok (.iconst 1, 1) := by decide +kernel
theorem dX7_is_20 : decode cX7_is 20 = .ok (.goto 4, 3) := by decide +kernel
theorem dX7_is_23 : decode cX7_is 23 = .ok (.iconst 0, 1) := by decide +kernel
theorem dX7_is_24 : decode cX7_is 24 = .ok (.ireturn, 1) := by decide +kernel
set_option maxRecDepth 20000 in
theorem gw_wsX7_is : wsX7_is.all goodWord = true := by decide +kernel
set_option maxRecDepth 20000 in
theorem ggX7_settle_X7_is : GoodIn wsX7_settle wsX7_is := goodIn_sub (List.forall_mem_cons.mpr ⟨(List.mem_cons_of_mem _ (List.mem_append_left _ (List.mem_append_left _ (List.mem_append_left _ (List.mem_of_getElem? (i := 10) rfl))))), List.forall_mem_append.mpr ⟨List.forall_mem_cons.mpr ⟨(List.mem_cons_of_mem _ (List.mem_append_left _ (List.mem_append_left _ (List.mem_append_left _ (List.mem_of_getElem? (i := 0) rfl))))), fun _ h => absurd h List.not_mem_nil⟩, fun _ h => (List.mem_cons_of_mem _ (List.mem_append_left _ (List.mem_append_right _ h)))⟩⟩) gw_wsX7_is
set_option maxRecDepth 20000 in
theorem gX7_settle_X7_is : GoodIn wsX7_settle (wsV RX7 71 RX7 yX7_is wsX7_is) := goodIn_app (goodIn_of _ (by decide +kernel)) ggX7_settle_X7_is
set_option maxRecDepth 20000 in
theorem ggX7_settle_X3_unpack : GoodIn wsX7_settle wsX3_unpack := goodIn_sub (List.forall_mem_cons.mpr ⟨(List.mem_cons_of_mem _ (List.mem_append_left _ (List.mem_append_left _ (List.mem_append_left _ (List.mem_of_getElem? (i := 15) rfl))))), List.forall_mem_append.mpr ⟨List.forall_mem_cons.mpr ⟨(List.mem_cons_of_mem _ (List.mem_append_left _ (List.mem_append_left _ (List.mem_append_left _ (List.mem_of_getElem? (i := 16) rfl))))), List.forall_mem_cons.mpr ⟨(List.mem_cons_of_mem _ (List.mem_append_left _ (List.mem_append_left _ (List.mem_append_left _ (List.mem_of_getElem? (i := 17) rfl))))), List.forall_mem_cons.mpr ⟨(List.mem_cons_of_mem _ (List.mem_append_left _ (List.mem_append_left _ (List.mem_append_left _ (List.mem_of_getElem? (i := 18) rfl))))), List.forall_mem_cons.mpr ⟨(List.mem_cons_of_mem _ (List.mem_append_left _ (List.mem_append_left _ (List.mem_append_left _ (List.mem_of_getElem? (i := 19) rfl))))), List.forall_mem_cons.mpr ⟨(List.mem_cons_of_mem _ (List.mem_append_left _ (List.mem_append_left _ (List.mem_append_left _ (List.mem_of_getElem? (i := 20) rfl))))), List.forall_mem_cons.mpr ⟨(List.mem_cons_of_mem _ (List.mem_append_left _ (List.mem_append_left _ (List.mem_append_left _ (List.mem_of_getElem? (i := 21) rfl))))), List.forall_mem_cons.mpr ⟨(List.mem_cons_of_mem _ (List.mem_append_left _ (List.mem_append_left _ (List.mem_append_left _ (List.mem_of_getElem? (i := 22) rfl))))), List.forall_mem_cons.mpr ⟨(List.mem_cons_of_mem _ (List.mem_append_left _ (List.mem_append_left _ (List.mem_append_left _ (List.mem_of_getElem? (i := 23) rfl))))), List.forall_mem_cons.mpr ⟨(List.mem_cons_of_mem _ (List.mem_append_left _ (List.mem_append_left _ (List.mem_append_right _ (List.mem_append_left _ (List.mem_of_getElem? (i := 0) rfl)))))), List.forall_mem_cons.mpr ⟨(List.mem_cons_of_mem _ (List.mem_append_left _ (List.mem_append_left _ (List.mem_append_left _ (List.mem_of_getElem? (i := 14) rfl))))), List.forall_mem_cons.mpr ⟨(List.mem_cons_of_mem _ (List.mem_append_left _ (List.mem_append_left _ (List.mem_append_right _ (List.mem_append_left _ (List.mem_of_getElem? (i := 1) rfl)))))), fun _ h => absurd h List.not_mem_nil⟩⟩⟩⟩⟩⟩⟩⟩⟩⟩⟩, fun _ h => (List.mem_cons_of_mem _ (List.mem_append_right _ h))⟩⟩) gw_wsX3_unpack
set_option maxRecDepth 20000 in
theorem gX7_settle_X3_unpack : GoodIn wsX7_settle (wsV RX7 75 RX3 yX3_unpack wsX3_unpack) := goodIn_app (goodIn_of _ (by decide +kernel)) ggX7_settle_X3_unpack
set_option maxRecDepth 20000 in
theorem ggX7_settle_X3_weigh : GoodIn wsX7_settle wsX3_weigh := goodIn_sub (List.forall_mem_cons.mpr ⟨(List.mem_cons_of_mem _ (List.mem_append_left _ (List.mem_append_left _ (List.mem_append_right _ (List.mem_append_left _ (List.mem_of_getElem? (i := 5) rfl)))))), List.forall_mem_append.mpr ⟨List.forall_mem_append.mpr ⟨List.forall_mem_cons.mpr ⟨(List.mem_cons_of_mem _ (List.mem_append_left _ (List.mem_append_left _ (List.mem_append_right _ (List.mem_append_left _ (List.mem_of_getElem? (i := 6) rfl)))))), List.forall_mem_cons.mpr ⟨(List.mem_cons_of_mem _ (List.mem_append_left _ (List.mem_append_left _ (List.mem_append_right _ (List.mem_append_left _ (List.mem_of_getElem? (i := 7) rfl)))))), List.forall_mem_cons.mpr ⟨(List.mem_cons_of_mem _ (List.mem_append_left _ (List.mem_append_left _ (List.mem_append_right _ (List.mem_append_left _ (List.mem_of_getElem? (i := 8) rfl)))))), List.forall_mem_cons.mpr ⟨(List.mem_cons_of_mem _ (List.mem_append_left _ (List.mem_append_left _ (List.mem_append_left _ (List.mem_of_getElem? (i := 14) rfl))))), List.forall_mem_cons.mpr ⟨(List.mem_cons_of_mem _ (List.mem_append_left _ (List.mem_append_left _ (List.mem_append_right _ (List.mem_append_left _ (List.mem_of_getElem? (i := 9) rfl)))))), List.forall_mem_cons.mpr ⟨(List.mem_cons_of_mem _ (List.mem_append_left _ (List.mem_append_left _ (List.mem_append_right _ (List.mem_append_left _ (List.mem_of_getElem? (i := 10) rfl)))))), List.forall_mem_cons.mpr ⟨(List.mem_cons_of_mem _ (List.mem_append_left _ (List.mem_append_left _ (List.mem_append_right _ (List.mem_append_left _ (List.mem_of_getElem? (i := 11) rfl)))))), List.forall_mem_cons.mpr ⟨(List.mem_cons_of_mem _ (List.mem_append_left _ (List.mem_append_left _ (List.mem_append_left _ (List.mem_of_getElem? (i := 16) rfl))))), List.forall_mem_cons.mpr ⟨(List.mem_cons_of_mem _ (List.mem_append_left _ (List.mem_append_left _ (List.mem_append_left _ (List.mem_of_getElem? (i := 21) rfl))))), List.forall_mem_cons.mpr ⟨(List.mem_cons_of_mem _ (List.mem_append_left _ (List.mem_append_left _ (List.mem_append_right _ (List.mem_append_left _ (List.mem_of_getElem? (i := 12) rfl)))))), List.forall_mem_cons.mpr ⟨(List.mem_cons_of_mem _ (List.mem_append_left _ (List.mem_append_left _ (List.mem_append_right _ (List.mem_append_left _ (List.mem_of_getElem? (i := 13) rfl)))))), List.forall_mem_cons.mpr ⟨(List.mem_cons_of_mem _ (List.mem_append_left _ (List.mem_append_left _ (List.mem_append_right _ (List.mem_append_left _ (List.mem_of_getElem? (i := 14) rfl)))))), List.forall_mem_cons.mpr ⟨(List.mem_cons_of_mem _ (List.mem_append_left _ (List.mem_append_left _ (List.mem_append_right _ (List.mem_append_left _ (List.mem_of_getElem? (i := 15) rfl)))))), List.forall_mem_cons.mpr ⟨(List.mem_cons_of_mem _ (List.mem_append_left _ (List.mem_append_left _ (List.mem_append_right _ (List.mem_append_left _ (List.mem_of_getElem? (i := 16) rfl)))))), List.forall_mem_cons.mpr ⟨(List.mem_cons_of_mem _ (List.mem_append_left _ (List.mem_append_left _ (List.mem_append_right _ (List.mem_append_left _ (List.mem_of_getElem? (i := 17) rfl)))))), List.forall_mem_cons.mpr ⟨(List.mem_cons_of_mem _ (List.mem_append_left _ (List.mem_append_left _ (List.mem_append_right _ (List.mem_append_left _ (List.mem_of_getElem? (i := 18) rfl)))))), List.forall_mem_cons.mpr ⟨(List.mem_cons_of_mem _ (List.mem_append_left _ (List.mem_append_left _ (List.mem_append_right _ (List.mem_append_left _ (List.mem_of_getElem? (i := 19) rfl)))))), List.forall_mem_cons.mpr ⟨(List.mem_cons_of_mem _ (List.mem_append_left _ (List.mem_append_left _ (List.mem_append_right _ (List.mem_append_left _ (List.mem_of_getElem? (i := 20) rfl)))))), List.forall_mem_cons.mpr ⟨(List.mem_cons_of_mem _ (List.mem_append_left _ (List.mem_append_left _ (List.mem_append_right _ (List.mem_append_left _ (List.mem_of_getElem? (i := 21) rfl)))))), List.forall_mem_cons.mpr ⟨(List.mem_cons_of_mem _ (List.mem_append_left _ (List.mem_append_left _ (List.mem_append_right _ (List.mem_append_left _ (List.mem_of_getElem? (i := 22) rfl)))))), List.forall_mem_cons.mpr ⟨(List.mem_cons_of_mem _ (List.mem_append_left _ (List.mem_append_left _ (List.mem_append_right _ (List.mem_append_left _ (List.mem_of_getElem? (i := 23) rfl)))))), List.forall_mem_cons.mpr ⟨(List.mem_cons_of_mem _ (List.mem_append_left _ (List.mem_append_left _ (List.mem_append_right _ (List.mem_append_right _ (List.mem_append_left _ (List.mem_of_getElem? (i := 0) rfl))))))), List.forall_mem_cons.mpr ⟨(List.mem_cons_of_mem _ (List.mem_append_left _ (List.mem_append_left _ (List.mem_append_right _ (List.mem_append_right _ (List.mem_append_left _ (List.mem_of_getElem? (i := 1) rfl))))))), List.forall_mem_cons.mpr ⟨(List.mem_cons_of_mem _ (List.mem_append_left _ (List.mem_append_left _ (List.mem_append_right _ (List.mem_append_right _ (List.mem_append_left _ (List.mem_of_getElem? (i := 2) rfl))))))), fun _ h => absurd h List.not_mem_nil⟩⟩⟩⟩⟩⟩⟩⟩⟩⟩⟩⟩⟩⟩⟩⟩⟩⟩⟩⟩⟩⟩⟩⟩, List.forall_mem_cons.mpr ⟨(List.mem_cons_of_mem _ (List.mem_append_left _ (List.mem_append_left _ (List.mem_append_right _ (List.mem_append_right _ (List.mem_append_left _ (List.mem_of_getElem? (i := 3) rfl))))))), List.forall_mem_cons.mpr ⟨(List.mem_cons_of_mem _ (List.mem_append_left _ (List.mem_append_left _ (List.mem_append_right _ (List.mem_append_right _ (List.mem_append_left _ (List.mem_of_getElem? (i := 4) rfl))))))), List.forall_mem_cons.mpr ⟨(List.mem_cons_of_mem _ (List.mem_append_left _ (List.mem_append_left _ (List.mem_append_right _ (List.mem_append_right _ (List.mem_append_left _ (List.mem_of_getElem? (i := 5) rfl))))))), List.forall_mem_cons.mpr ⟨(List.mem_cons_of_mem _ (List.mem_append_left _ (List.mem_append_left _ (List.mem_append_right _ (List.mem_append_right _ (List.mem_append_left _ (List.mem_of_getElem? (i := 6) rfl))))))), List.forall_mem_cons.mpr ⟨(List.mem_cons_of_mem _ (List.mem_append_left _ (List.mem_append_left _ (List.mem_append_right _ (List.mem_append_right _ (List.mem_append_left _ (List.mem_of_getElem? (i := 7) rfl))))))), List.forall_mem_cons.mpr ⟨(List.mem_cons_of_mem _ (List.mem_append_left _ (List.mem_append_left _ (List.mem_append_left _ (List.mem_of_getElem? (i := 22) rfl))))), List.forall_mem_cons.mpr ⟨(List.mem_cons_of_mem _ (List.mem_append_left _ (List.mem_append_left _ (List.mem_append_left _ (List.mem_of_getElem? (i := 23) rfl))))), List.forall_mem_cons.mpr ⟨(List.mem_cons_of_mem _ (List.mem_append_left _ (List.mem_append_left _ (List.mem_append_right _ (List.mem_append_left _ (List.mem_of_getElem? (i := 0) rfl)))))), List.forall_mem_cons.mpr ⟨(List.mem_cons_of_mem _ (List.mem_append_left _ (List.mem_append_left _ (List.mem_append_right _ (List.mem_append_left _ (List.mem_of_getElem? (i := 1) rfl)))))), List.forall_mem_cons.mpr ⟨(List.mem_cons_of_mem _ (List.mem_append_left _ (List.mem_append_left _ (List.mem_append_right _ (List.mem_append_right _ (List.mem_append_left _ (List.mem_of_getElem? (i := 8) rfl))))))), List.forall_mem_cons.mpr ⟨(List.mem_cons_of_mem _ (List.mem_append_left _ (List.mem_append_left _ (List.mem_append_right _ (List.mem_append_right _ (List.mem_append_left _ (List.mem_of_getElem? (i := 9) rfl))))))), List.forall_mem_cons.mpr ⟨(List.mem_cons_of_mem _ (List.mem_append_left _ (List.mem_append_left _ (List.mem_append_right _ (List.mem_append_right _ (List.mem_append_left _ (List.mem_of_getElem? (i := 10) rfl))))))), List.forall_mem_cons.mpr ⟨(List.mem_cons_of_mem _ (List.mem_append_left _ (List.mem_append_left _ (List.mem_append_right _ (List.mem_append_right _ (List.mem_append_left _ (List.mem_of_getElem? (i := 11) rfl))))))), fun _ h => absurd h List.not_mem_nil⟩⟩⟩⟩⟩⟩⟩⟩⟩⟩⟩⟩⟩⟩, fun _ h => (List.mem_cons_of_mem _ (List.mem_append_right _ h))⟩⟩) gw_wsX3_weigh
set_option maxRecDepth 20000 in
theorem gX7_settle_X3_weigh : GoodIn wsX7_settle (wsV RX7 78 RX3 yX3_weigh wsX3_weigh) := goodIn_app (goodIn_of _ (by decide +kernel)) ggX7_settle_X3_weigh
set_option maxRecDepth 20000 in
theorem ggX7_settle_X3_codeBehind : GoodIn wsX7_settle wsX3_codeBehind := goodIn_sub (List.forall_mem_cons.mpr ⟨(List.mem_cons_of_mem _ (List.mem_append_left _ (List.mem_append_left _ (List.mem_append_right _ (List.mem_append_right _ (List.mem_append_left _ (List.mem_of_getElem? (i := 15) rfl))))))), List.forall_mem_append.mpr ⟨List.forall_mem_cons.mpr ⟨(List.mem_cons_of_mem _ (List.mem_append_left _ (List.mem_append_left _ (List.mem_append_right _ (List.mem_append_left _ (List.mem_of_getElem? (i := 23) rfl)))))), List.forall_mem_cons.mpr ⟨(List.mem_cons_of_mem _ (List.mem_append_left _ (List.mem_append_left _ (List.mem_append_left _ (List.mem_of_getElem? (i := 16) rfl))))), List.forall_mem_cons.mpr ⟨(List.mem_cons_of_mem _ (List.mem_append_left _ (List.mem_append_left _ (List.mem_append_left _ (List.mem_of_getElem? (i := 22) rfl))))), List.forall_mem_cons.mpr ⟨(List.mem_cons_of_mem _ (List.mem_append_left _ (List.mem_append_left _ (List.mem_append_left _ (List.mem_of_getElem? (i := 23) rfl))))), List.forall_mem_cons.mpr ⟨(List.mem_cons_of_mem _ (List.mem_append_left _ (List.mem_append_left _ (List.mem_append_right _ (List.mem_append_left _ (List.mem_of_getElem? (i := 0) rfl)))))), List.forall_mem_cons.mpr ⟨(List.mem_cons_of_mem _ (List.mem_append_left _ (List.mem_append_left _ (List.mem_append_left _ (List.mem_of_getElem? (i := 14) rfl))))), List.forall_mem_cons.mpr ⟨(List.mem_cons_of_mem _ (List.mem_append_left _ (List.mem_append_left _ (List.mem_append_right _ (List.mem_append_left _ (List.mem_of_getElem? (i := 1) rfl)))))), fun _ h => absurd h List.not_mem_nil⟩⟩⟩⟩⟩⟩⟩, fun _ h => (List.mem_cons_of_mem _ (List.mem_append_right _ h))⟩⟩) gw_wsX3_codeBehind
set_option maxRecDepth 20000 in
theorem gX7_settle_X3_codeBehind : GoodIn wsX7_settle (wsV RX7 84 RX3 yX3_codeBehind wsX3_codeBehind) := goodIn_app (goodIn_of _ (by decide +kernel)) ggX7_settle_X3_codeBehind
set_option maxRecDepth 20000 in
theorem gw_wsX7_closeCycle : wsX7_closeCycle.all goodWord = true := by decide +kernel
set_option maxRecDepth 20000 in
theorem ggX7_settle_X7_closeCycle : GoodIn wsX7_settle wsX7_closeCycle := goodIn_sub (List.forall_mem_cons.mpr ⟨(List.mem_cons_of_mem _ (List.mem_append_left _ (List.mem_append_left _ (List.mem_append_right _ (List.mem_append_right _ (List.mem_append_left _ (List.mem_of_getElem? (i := 19) rfl))))))), List.forall_mem_append.mpr ⟨List.forall_mem_append.mpr ⟨List.forall_mem_append.mpr ⟨List.forall_mem_cons.mpr ⟨(List.mem_cons_of_mem _ (List.mem_append_left _ (List.mem_append_left _ (List.mem_append_left _ (List.mem_of_getElem? (i := 0) rfl))))), List.forall_mem_cons.mpr ⟨(List.mem_cons_of_mem _ (List.mem_append_left _ (List.mem_append_left _ (List.mem_append_right _ (List.mem_append_right _ (List.mem_append_left _ (List.mem_of_getElem? (i := 20) rfl))))))), List.forall_mem_cons.mpr ⟨(List.mem_cons_of_mem _ (List.mem_append_left _ (List.mem_append_left _ (List.mem_append_left _ (List.mem_of_getElem? (i := 18) rfl))))), List.forall_mem_cons.mpr ⟨(List.mem_cons_of_mem _ (List.mem_append_left _ (List.mem_append_left _ (List.mem_append_left _ (List.mem_of_getElem? (i := 19) rfl))))), List.forall_mem_cons.mpr ⟨(List.mem_cons_of_mem _ (List.mem_append_left _ (List.mem_append_left _ (List.mem_append_left _ (List.mem_of_getElem? (i := 20) rfl))))), List.forall_mem_cons.mpr ⟨(List.mem_cons_of_mem _ (List.mem_append_left _ (List.mem_append_left _ (List.mem_append_right _ (List.mem_append_right _ (List.mem_append_left _ (List.mem_of_getElem? (i := 21) rfl))))))), List.forall_mem_cons.mpr ⟨(List.mem_cons_of_mem _ (List.mem_append_left _ (List.mem_append_left _ (List.mem_append_left _ (List.mem_of_getElem? (i := 2) rfl))))), List.forall_mem_cons.mpr ⟨(List.mem_cons_of_mem _ (List.mem_append_left _ (List.mem_append_left _ (List.mem_append_right _ (List.mem_append_right _ (List.mem_append_left _ (List.mem_of_getElem? (i := 22) rfl))))))), List.forall_mem_cons.mpr ⟨(List.mem_cons_of_mem _ (List.mem_append_left _ (List.mem_append_left _ (List.mem_append_right _ (List.mem_append_right _ (List.mem_append_left _ (List.mem_of_getElem? (i := 23) rfl))))))), List.forall_mem_cons.mpr ⟨(List.mem_cons_of_mem _ (List.mem_append_left _ (List.mem_append_left _ (List.mem_append_right _ (List.mem_append_right _ (List.mem_append_right _ (List.mem_of_getElem? (i := 0) rfl))))))), List.forall_mem_cons.mpr ⟨(List.mem_cons_of_mem _ (List.mem_append_left _ (List.mem_append_left _ (List.mem_append_right _ (List.mem_append_right _ (List.mem_append_right _ (List.mem_of_getElem? (i := 1) rfl))))))), List.forall_mem_cons.mpr ⟨(List.mem_cons_of_mem _ (List.mem_append_left _ (List.mem_append_left _ (List.mem_append_right _ (List.mem_append_right _ (List.mem_append_right _ (List.mem_of_getElem? (i := 2) rfl))))))), List.forall_mem_cons.mpr ⟨(List.mem_cons_of_mem _ (List.mem_append_left _ (List.mem_append_left _ (List.mem_append_right _ (List.mem_append_right _ (List.mem_append_right _ (List.mem_of_getElem? (i := 3) rfl))))))), List.forall_mem_cons.mpr ⟨(List.mem_cons_of_mem _ (List.mem_append_left _ (List.mem_append_left _ (List.mem_append_left _ (List.mem_of_getElem? (i := 4) rfl))))), List.forall_mem_cons.mpr ⟨(List.mem_cons_of_mem _ (List.mem_append_left _ (List.mem_append_left _ (List.mem_append_left _ (List.mem_of_getElem? (i := 1) rfl))))), List.forall_mem_cons.mpr ⟨(List.mem_cons_of_mem _ (List.mem_append_left _ (List.mem_append_left _ (List.mem_append_right _ (List.mem_append_right _ (List.mem_append_right _ (List.mem_of_getElem? (i := 4) rfl))))))), List.forall_mem_cons.mpr ⟨(List.mem_cons_of_mem _ (List.mem_append_left _ (List.mem_append_left _ (List.mem_append_left _ (List.mem_of_getElem? (i := 6) rfl))))), List.forall_mem_cons.mpr ⟨(List.mem_cons_of_mem _ (List.mem_append_left _ (List.mem_append_left _ (List.mem_append_left _ (List.mem_of_getElem? (i := 7) rfl))))), List.forall_mem_cons.mpr ⟨(List.mem_cons_of_mem _ (List.mem_append_left _ (List.mem_append_left _ (List.mem_append_left _ (List.mem_of_getElem? (i := 8) rfl))))), List.forall_mem_cons.mpr ⟨(List.mem_cons_of_mem _ (List.mem_append_left _ (List.mem_append_left _ (List.mem_append_left _ (List.mem_of_getElem? (i := 9) rfl))))), List.forall_mem_cons.mpr ⟨(List.mem_cons_of_mem _ (List.mem_append_left _ (List.mem_append_left _ (List.mem_append_left _ (List.mem_of_getElem? (i := 10) rfl))))), List.forall_mem_cons.mpr ⟨(List.mem_cons_of_mem _ (List.mem_append_left _ (List.mem_append_left _ (List.mem_append_right _ (List.mem_append_right _ (List.mem_append_right _ (List.mem_of_getElem? (i := 5) rfl))))))), List.forall_mem_cons.mpr ⟨(List.mem_cons_of_mem _ (List.mem_append_left _ (List.mem_append_left _ (List.mem_append_right _ (List.mem_append_right _ (List.mem_append_right _ (List.mem_of_getElem? (i := 6) rfl))))))), List.forall_mem_cons.mpr ⟨(List.mem_cons_of_mem _ (List.mem_append_left _ (List.mem_append_left _ (List.mem_append_right _ (List.mem_append_right _ (List.mem_append_right _ (List.mem_of_getElem? (i := 7) rfl))))))), fun _ h => absurd h List.not_mem_nil⟩⟩⟩⟩⟩⟩⟩⟩⟩⟩⟩⟩⟩⟩⟩⟩⟩⟩⟩⟩⟩⟩⟩⟩, List.forall_mem_cons.mpr ⟨(List.mem_cons_of_mem _ (List.mem_append_left _ (List.mem_append_left _ (List.mem_append_left _ (List.mem_of_getElem? (i := 14) rfl))))), List.forall_mem_cons.mpr ⟨(List.mem_cons_of_mem _ (List.mem_append_left _ (List.mem_append_left _ (List.mem_append_right _ (List.mem_append_right _ (List.mem_append_right _ (List.mem_of_getElem? (i := 8) rfl))))))), List.forall_mem_cons.mpr ⟨(List.mem_cons_of_mem _ (List.mem_append_left _ (List.mem_append_left _ (List.mem_append_left _ (List.mem_of_getElem? (i := 16) rfl))))), List.forall_mem_cons.mpr ⟨(List.mem_cons_of_mem _ (List.mem_append_left _ (List.mem_append_left _ (List.mem_append_left _ (List.mem_of_getElem? (i := 22) rfl))))), List.forall_mem_cons.mpr ⟨(List.mem_cons_of_mem _ (List.mem_append_left _ (List.mem_append_left _ (List.mem_append_left _ (List.mem_of_getElem? (i := 23) rfl))))), List.forall_mem_cons.mpr ⟨(List.mem_cons_of_mem _ (List.mem_append_left _ (List.mem_append_left _ (List.mem_append_right _ (List.mem_append_left _ (List.mem_of_getElem? (i := 0) rfl)))))), List.forall_mem_cons.mpr ⟨(List.mem_cons_of_mem _ (List.mem_append_left _ (List.mem_append_left _ (List.mem_append_right _ (List.mem_append_left _ (List.mem_of_getElem? (i := 1) rfl)))))), fun _ h => absurd h List.not_mem_nil⟩⟩⟩⟩⟩⟩⟩⟩, fun _ h => (List.mem_cons_of_mem _ (List.mem_append_left _ (List.mem_append_right _ h)))⟩, fun _ h => (List.mem_cons_of_mem _ (List.mem_append_right _ h))⟩⟩) gw_wsX7_closeCycle
set_option maxRecDepth 20000 in
theorem gX7_settle_X7_closeCycle : GoodIn wsX7_settle (wsV RX7 88 RX7 yX7_closeCycle wsX7_closeCycle) := goodIn_app (goodIn_of _ (by decide +kernel)) ggX7_settle_X7_closeCycle
set_option maxRecDepth 20000 in
theorem gw_wsX7_joinWay : wsX7_joinWay.all goodWord = true := by decide +kernel
set_option maxRecDepth 20000 in
theorem ggX7_settle_X7_joinWay : GoodIn wsX7_settle wsX7_joinWay := goodIn_sub (List.forall_mem_cons.mpr ⟨(List.mem_cons_of_mem _ (List.mem_append_left _ (List.mem_append_left _ (List.mem_append_right _ (List.mem_append_right _ (List.mem_append_right _ (List.mem_of_getElem? (i := 12) rfl))))))), List.forall_mem_append.mpr ⟨List.forall_mem_cons.mpr ⟨(List.mem_cons_of_mem _ (List.mem_append_left _ (List.mem_append_left _ (List.mem_append_left _ (List.mem_of_getElem? (i := 0) rfl))))), List.forall_mem_cons.mpr ⟨(List.mem_cons_of_mem _ (List.mem_append_left _ (List.mem_append_left _ (List.mem_append_left _ (List.mem_of_getElem? (i := 1) rfl))))), List.forall_mem_cons.mpr ⟨(List.mem_cons_of_mem _ (List.mem_append_left _ (List.mem_append_left _ (List.mem_append_left _ (List.mem_of_getElem? (i := 4) rfl))))), List.forall_mem_cons.mpr ⟨(List.mem_cons_of_mem _ (List.mem_append_left _ (List.mem_append_left _ (List.mem_append_right _ (List.mem_append_right _ (List.mem_append_right _ (List.mem_of_getElem? (i := 4) rfl))))))), List.forall_mem_cons.mpr ⟨(List.mem_cons_of_mem _ (List.mem_append_left _ (List.mem_append_left _ (List.mem_append_right _ (List.mem_append_right _ (List.mem_append_right _ (List.mem_of_getElem? (i := 13) rfl))))))), List.forall_mem_cons.mpr ⟨(List.mem_cons_of_mem _ (List.mem_append_left _ (List.mem_append_left _ (List.mem_append_left _ (List.mem_of_getElem? (i := 6) rfl))))), List.forall_mem_cons.mpr ⟨(List.mem_cons_of_mem _ (List.mem_append_left _ (List.mem_append_left _ (List.mem_append_left _ (List.mem_of_getElem? (i := 7) rfl))))), List.forall_mem_cons.mpr ⟨(List.mem_cons_of_mem _ (List.mem_append_left _ (List.mem_append_left _ (List.mem_append_left _ (List.mem_of_getElem? (i := 8) rfl))))), List.forall_mem_cons.mpr ⟨(List.mem_cons_of_mem _ (List.mem_append_left _ (List.mem_append_left _ (List.mem_append_left _ (List.mem_of_getElem? (i := 9) rfl))))), List.forall_mem_cons.mpr ⟨(List.mem_cons_of_mem _ (List.mem_append_left _ (List.mem_append_left _ (List.mem_append_left _ (List.mem_of_getElem? (i := 10) rfl))))), fun _ h => absurd h List.not_mem_nil⟩⟩⟩⟩⟩⟩⟩⟩⟩⟩, fun _ h => (List.mem_cons_of_mem _ (List.mem_append_left _ (List.mem_append_right _ h)))⟩⟩) gw_wsX7_joinWay
set_option maxRecDepth 20000 in
theorem gX7_settle_X7_joinWay : GoodIn wsX7_settle (wsV RX7 91 RX7 yX7_joinWay wsX7_joinWay) := goodIn_app (goodIn_of _ (by decide +kernel)) ggX7_settle_X7_joinWay
theorem dX7_settle_0 : decode cX7_settle 0 = .ok (.iload_n 1, 1) := by decide +kernel
theorem dX7_settle_1 : decode cX7_settle 1 = .ok (.istore_n 2, 1) := by decide +kernel
theorem dX7_settle_2 : decode cX7_settle 2 = .ok (.iconst 0, 1) := by decide +kernel
theorem dX7_settle_3 : decode cX7_settle 3 = .ok (.istore_n 3, 1) := by decide +kernel
theorem dX7_settle_4 : decode cX7_settle 4 = .ok (.iload_n 3, 1) := by decide +kernel
theorem dX7_settle_5 : decode cX7_settle 5 = .ok (.aload_n 0, 1) := by decide +kernel
theorem dX7_settle_6 : decode cX7_settle 6 = .ok (.getfield 28, 3) := by decide +kernel
theorem dX7_settle_9 : decode cX7_settle 9 = .ok (.if_icmp .ge 92, 3) := by decide +kernel
theorem dX7_settle_12 : decode cX7_settle 12 = .ok (.aload_n 0, 1) := by decide +kernel
theorem dX7_settle_13 : decode cX7_settle 13 = .ok (.iload_n 2, 1) := by decide +kernel
theorem dX7_settle_14 : decode cX7_settle 14 = .ok (.invokevirtual 71, 3) := by decide +kernel
theorem dX7_settle_17 : decode cX7_settle 17 = .ok (.ifCond .eq 84, 3) := by decide +kernel
theorem dX7_settle_20 : decode cX7_settle 20 = .ok (.aload_n 0, 1) := by decide +kernel
theorem dX7_settle_21 : decode cX7_settle 21 = .ok (.getfield 22, 3) := by decide +kernel
theorem dX7_settle_24 : decode cX7_settle 24 = .ok (.iload_n 2, 1) := by decide +kernel
theorem dX7_settle_25 : decode cX7_settle 25 = .ok (.iaload, 1) := by decide +kernel
theorem dX7_settle_26 : decode cX7_settle 26 = .ok (.iconst (-1), 1) := by decide +kernel
theorem dX7_settle_27 : decode cX7_settle 27 = .ok (.if_icmp .ne 74, 3) := by decide +kernel
theorem dX7_settle_30 : decode cX7_settle 30 = .ok (.aload_n 0, 1) := by decide +kernel
theorem dX7_settle_31 : decode cX7_settle 31 = .ok (.getfield 22, 3) := by decide +kernel
theorem dX7_settle_34 : decode cX7_settle 34 = .ok (.iload_n 2, 1) := by decide +kernel
theorem dX7_settle_35 : decode cX7_settle 35 = .ok (.bipush (-2), 2) := by decide +kernel
theorem dX7_settle_37 : decode cX7_settle 37 = .ok (.iastore, 1) := by decide +kernel
theorem dX7_settle_38 : decode cX7_settle 38 = .ok (.aload_n 0, 1) := by decide +kernel
theorem dX7_settle_39 : decode cX7_settle 39 = .ok (.getfield 12, 3) := by decide +kernel
theorem dX7_settle_42 : decode cX7_settle 42 = .ok (.iload_n 2, 1) := by decide +kernel
theorem dX7_settle_43 : decode cX7_settle 43 = .ok (.invokevirtual 75, 3) := by decide +kernel
theorem dX7_settle_46 : decode cX7_settle 46 = .ok (.aload_n 0, 1) := by decide +kernel
theorem dX7_settle_47 : decode cX7_settle 47 = .ok (.getfield 12, 3) := by decide +kernel
theorem dX7_settle_50 : decode cX7_settle 50 = .ok (.aload_n 0, 1) := by decide +kernel
theorem dX7_settle_51 : decode cX7_settle 51 = .ok (.getfield 32, 3) := by decide +kernel
theorem dX7_settle_54 : decode cX7_settle 54 = .ok (.invokevirtual 78, 3) := by decide +kernel
theorem dX7_settle_57 : decode cX7_settle 57 = .ok (.aload_n 0, 1) := by decide +kernel
theorem dX7_settle_58 : decode cX7_settle 58 = .ok (.getfield 18, 3) := by decide +kernel
theorem dX7_settle_61 : decode cX7_settle 61 = .ok (.iload_n 2, 1) := by decide +kernel
theorem dX7_settle_62 : decode cX7_settle 62 = .ok (.aload_n 0, 1) := by decide +kernel
theorem dX7_settle_63 : decode cX7_settle 63 = .ok (.getfield 12, 3) := by decide +kernel
theorem dX7_settle_66 : decode cX7_settle 66 = .ok (.getfield 81, 3) := by decide +kernel
theorem dX7_settle_69 : decode cX7_settle 69 = .ok (.sipush (-1005), 3) := by decide +kernel
theorem dX7_settle_72 : decode cX7_settle 72 = .ok (.if_icmp .ne 7, 3) := by decide +kernel
theorem dX7_settle_75 : decode cX7_settle 75 = .ok (.iconst (-1), 1) := by decide +kernel
theorem dX7_settle_76 : decode cX7_settle 76 = .ok (.goto 11, 3) := by decide +kernel
theorem dX7_settle_79 : decode cX7_settle 79 = .ok (.aload_n 0, 1) := by decide +kernel
theorem dX7_settle_80 : decode cX7_settle 80 = .ok (.getfield 12, 3) := by decide +kernel
theorem dX7_settle_83 : decode cX7_settle 83 = .ok (.iload_n 2, 1) := by decide +kernel
theorem dX7_settle_84 : decode cX7_settle 84 = .ok (.invokevirtual 84, 3) := by decide +kernel
theorem dX7_settle_87 : decode cX7_settle 87 = .ok (.iastore, 1) := by decide +kernel
