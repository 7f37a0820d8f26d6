/-! what every method's words are: the tables' good words, all of them -/
def TB : List Cond := lw_tbl.filter goodWord
theorem tb_mem {w : Cond} (h : w ∈ lw_tbl) (hg : goodWord w = true) : w ∈ TB := List.mem_filter.mpr ⟨h, hg⟩
theorem tb_sub {w : Cond} (h : w ∈ TB) : w ∈ lw_tbl := (List.mem_filter.mp h).1
theorem tb_t0 {w : Cond} (h : w ∈ k2_sels lw_privs) : w ∈ lw_tbl := List.mem_append_left _ h
theorem tb_t1 {w : Cond} (h : w ∈ tables_1_1) : w ∈ lw_tbl := List.mem_append_right _ (List.mem_append_left _ h)
theorem tb_t2 {w : Cond} (h : w ∈ tables_1_2) : w ∈ lw_tbl := List.mem_append_right _ (List.mem_append_right _ (List.mem_append_left _ h))
theorem tb_t3 {w : Cond} (h : w ∈ tables_1_3) : w ∈ lw_tbl := List.mem_append_right _ (List.mem_append_right _ (List.mem_append_right _ (List.mem_append_left _ h)))
theorem tb_t4 {w : Cond} (h : w ∈ tables_1_4) : w ∈ lw_tbl := List.mem_append_right _ (List.mem_append_right _ (List.mem_append_right _ (List.mem_append_right _ (List.mem_append_left _ h))))
theorem tb_t5 {w : Cond} (h : w ∈ tables_1_5) : w ∈ lw_tbl := List.mem_append_right _ (List.mem_append_right _ (List.mem_append_right _ (List.mem_append_right _ (List.mem_append_right _ h))))
theorem tb_in {y : MethodName} {c : ByteArray} {n : Nat} {r : Option FieldType} (h : Cond.code y c n r ∈ TB) : GoodIn TB (Cond.code y c n r :: TB) := by
  intro w hw
  have h1 : w ∈ TB := by
    rcases List.mem_cons.mp hw with rfl | h2
    · exact h
    · exact h2
  exact ⟨h1, good_of_word (List.mem_filter.mp h1).2⟩
/-- what the tables say of a callee -/
def LkB (y : MethodName) (bytes : ByteArray) (maxL : Nat) (ret : Option FieldType) (n : Nat) : Prop := Cond.code y bytes maxL ret ∈ TB ∧ Cond.initialized y.cls ∈ TB ∧ y.cls ≠ "java/lang/invoke/MethodHandle" ∧ y.cls ≠ "java/lang/invoke/VarHandle" ∧ (parseMethodDescriptor y.desc).map (fun d => d.parameters.length) = some n

theorem tw_1_0 : Cond.initialized "SafeSharesLaw" ∈ TB := tb_mem (tb_t1 (List.mem_of_getElem? (i := 0) rfl)) rfl
theorem tw_1_1 : Cond.initialized RX3 ∈ TB := tb_mem (tb_t1 (List.mem_of_getElem? (i := 1) rfl)) rfl
theorem tw_1_2 : Cond.initialized RX0 ∈ TB := tb_mem (tb_t1 (List.mem_of_getElem? (i := 2) rfl)) rfl
theorem tw_1_3 : Cond.initialized RX2 ∈ TB := tb_mem (tb_t1 (List.mem_of_getElem? (i := 3) rfl)) rfl
theorem tw_1_4 : Cond.initialized RJ7 ∈ TB := tb_mem (tb_t1 (List.mem_of_getElem? (i := 4) rfl)) rfl
theorem tw_1_5 : Cond.initialized RX1 ∈ TB := tb_mem (tb_t1 (List.mem_of_getElem? (i := 5) rfl)) rfl
theorem tw_1_6 : Cond.initialized RX4 ∈ TB := tb_mem (tb_t1 (List.mem_of_getElem? (i := 6) rfl)) rfl
theorem tw_1_7 : Cond.initialized RJ0 ∈ TB := tb_mem (tb_t1 (List.mem_of_getElem? (i := 7) rfl)) rfl
theorem tw_1_8 : Cond.initialized RJ1 ∈ TB := tb_mem (tb_t1 (List.mem_of_getElem? (i := 8) rfl)) rfl
theorem tw_1_9 : Cond.initialized RJ3 ∈ TB := tb_mem (tb_t1 (List.mem_of_getElem? (i := 9) rfl)) rfl
theorem tw_1_10 : Cond.initialized RJ2 ∈ TB := tb_mem (tb_t1 (List.mem_of_getElem? (i := 10) rfl)) rfl
theorem tw_1_11 : Cond.initialized RJ10 ∈ TB := tb_mem (tb_t1 (List.mem_of_getElem? (i := 11) rfl)) rfl
theorem tw_1_12 : Cond.initialized RJ6 ∈ TB := tb_mem (tb_t1 (List.mem_of_getElem? (i := 12) rfl)) rfl
theorem tw_1_13 : Cond.initialized RJ9 ∈ TB := tb_mem (tb_t1 (List.mem_of_getElem? (i := 13) rfl)) rfl
theorem tw_1_14 : Cond.classLink RL 7 RX3 ∈ TB := tb_mem (tb_t1 (List.mem_of_getElem? (i := 14) rfl)) rfl
theorem tw_1_16 : Cond.methodLink RL 9 yX3_init ∈ TB := tb_mem (tb_t1 (List.mem_of_getElem? (i := 16) rfl)) rfl
theorem tw_1_17 : Cond.instanceMethod yX3_init ∈ TB := tb_mem (tb_t1 (List.mem_of_getElem? (i := 17) rfl)) rfl
theorem tw_1_18 : Cond.code yX3_init cX3_init 1 none ∈ TB := tb_mem (tb_t1 (List.mem_of_getElem? (i := 18) rfl)) rfl
theorem tw_1_19 : Cond.methodLink RX3 1 objectInit ∈ TB := tb_mem (tb_t1 (List.mem_of_getElem? (i := 19) rfl)) rfl
theorem tw_1_20 : Cond.instanceMethod objectInit ∈ TB := tb_mem (tb_t1 (List.mem_of_getElem? (i := 20) rfl)) rfl
theorem tw_1_22 : Cond.classLink RX3 7 RX0 ∈ TB := tb_mem (tb_t1 (List.mem_of_getElem? (i := 22) rfl)) rfl
theorem tw_1_25 : Cond.instanceMethod yX0_init ∈ TB := tb_mem (tb_t1 (List.mem_of_getElem? (i := 25) rfl)) rfl
theorem tw_1_26 : Cond.code yX0_init cX0_init 1 none ∈ TB := tb_mem (tb_t1 (List.mem_of_getElem? (i := 26) rfl)) rfl
theorem tw_1_27 : Cond.methodLink RX0 3 objectInit ∈ TB := tb_mem (tb_t1 (List.mem_of_getElem? (i := 27) rfl)) rfl
theorem tw_1_28 : Cond.classLink RX0 41 RX2 ∈ TB := tb_mem (tb_t1 (List.mem_of_getElem? (i := 28) rfl)) rfl
theorem tw_1_30 : Cond.methodLink RX0 43 yX2_init ∈ TB := tb_mem (tb_t1 (List.mem_of_getElem? (i := 30) rfl)) rfl
theorem tw_1_31 : Cond.instanceMethod yX2_init ∈ TB := tb_mem (tb_t1 (List.mem_of_getElem? (i := 31) rfl)) rfl
theorem tw_1_32 : Cond.code yX2_init cX2_init 1 none ∈ TB := tb_mem (tb_t1 (List.mem_of_getElem? (i := 32) rfl)) rfl
theorem tw_1_33 : Cond.methodLink RX2 3 objectInit ∈ TB := tb_mem (tb_t1 (List.mem_of_getElem? (i := 33) rfl)) rfl
theorem tw_1_34 : Cond.methodLink RX2 15 yJ7_fill_53178 ∈ TB := tb_mem (tb_t1 (List.mem_of_getElem? (i := 34) rfl)) rfl
theorem tw_1_35 : Cond.static yJ7_fill_53178 ∈ TB := tb_mem (tb_t1 (List.mem_of_getElem? (i := 35) rfl)) rfl
theorem tw_1_36 : Cond.code yJ7_fill_53178 cJ7_fill_53178 4 none ∈ TB := tb_mem (tb_t1 (List.mem_of_getElem? (i := 36) rfl)) rfl
theorem tw_1_37 : Cond.fieldLink RX2 9 "SafeShares$Told" "numbers" "[I" ∈ TB := tb_mem (tb_t1 (List.mem_of_getElem? (i := 37) rfl)) rfl
theorem tw_1_42 : Cond.fieldLink RX0 9 "SafeShares$Safe" "number" "I" ∈ TB := tb_mem (tb_t1 (List.mem_of_getElem? (i := 42) rfl)) rfl
theorem tw_1_44 : Cond.fieldLink RX0 15 "SafeShares$Safe" "enough" "I" ∈ TB := tb_mem (tb_t1 (List.mem_of_getElem? (i := 44) rfl)) rfl
theorem tw_1_46 : Cond.fieldLink RX0 18 "SafeShares$Safe" "holders" "I" ∈ TB := tb_mem (tb_t1 (List.mem_of_getElem? (i := 46) rfl)) rfl
theorem tw_1_48 : Cond.fieldLink RX0 21 "SafeShares$Safe" "kinds" "[I" ∈ TB := tb_mem (tb_t1 (List.mem_of_getElem? (i := 48) rfl)) rfl
theorem tw_1_49 : Cond.fieldLink RX0 25 "SafeShares$Safe" "extras" "[I" ∈ TB := tb_mem (tb_t1 (List.mem_of_getElem? (i := 49) rfl)) rfl
theorem tw_1_50 : Cond.fieldLink RX0 28 "SafeShares$Safe" "factors" "[I" ∈ TB := tb_mem (tb_t1 (List.mem_of_getElem? (i := 50) rfl)) rfl
theorem tw_1_51 : Cond.fieldLink RX0 31 "SafeShares$Safe" "day" "I" ∈ TB := tb_mem (tb_t1 (List.mem_of_getElem? (i := 51) rfl)) rfl
theorem tw_1_53 : Cond.fieldLink RX0 34 "SafeShares$Safe" "tries" "I" ∈ TB := tb_mem (tb_t1 (List.mem_of_getElem? (i := 53) rfl)) rfl
theorem tw_1_55 : Cond.fieldLink RX0 37 "SafeShares$Safe" "shut" "Z" ∈ TB := tb_mem (tb_t1 (List.mem_of_getElem? (i := 55) rfl)) rfl
theorem tw_1_57 : Cond.fieldLink RX0 44 "SafeShares$Safe" "told" "LSafeShares$Told;" ∈ TB := tb_mem (tb_t1 (List.mem_of_getElem? (i := 57) rfl)) rfl
theorem tw_1_59 : Cond.fieldLink RX0 48 "SafeShares$Safe" "past" "[I" ∈ TB := tb_mem (tb_t1 (List.mem_of_getElem? (i := 59) rfl)) rfl
theorem tw_1_60 : Cond.fieldLink RX0 51 "SafeShares$Safe" "pastCount" "I" ∈ TB := tb_mem (tb_t1 (List.mem_of_getElem? (i := 60) rfl)) rfl
theorem tw_1_87 : Cond.classLink RX3 25 RX2 ∈ TB := tb_mem (tb_t1 (List.mem_of_getElem? (i := 87) rfl)) rfl
theorem tw_1_88 : Cond.methodLink RX3 27 yX2_init ∈ TB := tb_mem (tb_t1 (List.mem_of_getElem? (i := 88) rfl)) rfl
theorem tw_1_89 : Cond.classLink RX3 32 RX1 ∈ TB := tb_mem (tb_t1 (List.mem_of_getElem? (i := 89) rfl)) rfl
theorem tw_1_92 : Cond.instanceMethod yX1_init ∈ TB := tb_mem (tb_t1 (List.mem_of_getElem? (i := 92) rfl)) rfl
theorem tw_1_93 : Cond.code yX1_init cX1_init 1 none ∈ TB := tb_mem (tb_t1 (List.mem_of_getElem? (i := 93) rfl)) rfl
theorem tw_1_94 : Cond.methodLink RX1 3 objectInit ∈ TB := tb_mem (tb_t1 (List.mem_of_getElem? (i := 94) rfl)) rfl
theorem tw_1_95 : Cond.fieldLink RX1 9 "SafeShares$Text" "bytes" "[B" ∈ TB := tb_mem (tb_t1 (List.mem_of_getElem? (i := 95) rfl)) rfl
theorem tw_1_96 : Cond.fieldLink RX1 15 "SafeShares$Text" "length" "I" ∈ TB := tb_mem (tb_t1 (List.mem_of_getElem? (i := 96) rfl)) rfl
theorem tw_1_98 : Cond.fieldLink RX1 19 "SafeShares$Text" "tokenStart" "I" ∈ TB := tb_mem (tb_t1 (List.mem_of_getElem? (i := 98) rfl)) rfl
theorem tw_1_100 : Cond.fieldLink RX1 22 "SafeShares$Text" "tokenEnd" "I" ∈ TB := tb_mem (tb_t1 (List.mem_of_getElem? (i := 100) rfl)) rfl
theorem tw_1_101 : Cond.fieldLink RX1 25 "SafeShares$Text" "token" "I" ∈ TB := tb_mem (tb_t1 (List.mem_of_getElem? (i := 101) rfl)) rfl
theorem tw_1_114 : Cond.fieldLink RX3 10 "SafeShares" "now" "LSafeShares$Safe;" ∈ TB := tb_mem (tb_t1 (List.mem_of_getElem? (i := 114) rfl)) rfl
theorem tw_1_115 : Cond.fieldLink RX3 16 "SafeShares" "image0" "LSafeShares$Safe;" ∈ TB := tb_mem (tb_t1 (List.mem_of_getElem? (i := 115) rfl)) rfl
theorem tw_1_116 : Cond.fieldLink RX3 19 "SafeShares" "image1" "LSafeShares$Safe;" ∈ TB := tb_mem (tb_t1 (List.mem_of_getElem? (i := 116) rfl)) rfl
theorem tw_1_117 : Cond.fieldLink RX3 22 "SafeShares" "draft" "LSafeShares$Safe;" ∈ TB := tb_mem (tb_t1 (List.mem_of_getElem? (i := 117) rfl)) rfl
theorem tw_1_118 : Cond.fieldLink RX3 28 "SafeShares" "row" "LSafeShares$Told;" ∈ TB := tb_mem (tb_t1 (List.mem_of_getElem? (i := 118) rfl)) rfl
theorem tw_1_119 : Cond.fieldLink RX3 35 "SafeShares" "text" "LSafeShares$Text;" ∈ TB := tb_mem (tb_t1 (List.mem_of_getElem? (i := 119) rfl)) rfl
theorem tw_1_120 : Cond.fieldLink RX3 39 "SafeShares" "kept0" "Z" ∈ TB := tb_mem (tb_t1 (List.mem_of_getElem? (i := 120) rfl)) rfl
theorem tw_1_121 : Cond.fieldLink RX3 43 "SafeShares" "kept1" "Z" ∈ TB := tb_mem (tb_t1 (List.mem_of_getElem? (i := 121) rfl)) rfl
theorem tw_1_122 : Cond.fieldLink RX3 46 "SafeShares" "badCalls" "I" ∈ TB := tb_mem (tb_t1 (List.mem_of_getElem? (i := 122) rfl)) rfl
theorem tw_1_123 : Cond.fieldLink RX3 50 "SafeShares" "noCalls" "I" ∈ TB := tb_mem (tb_t1 (List.mem_of_getElem? (i := 123) rfl)) rfl
theorem tw_1_124 : Cond.fieldLink RX3 53 "SafeShares" "fullCalls" "I" ∈ TB := tb_mem (tb_t1 (List.mem_of_getElem? (i := 124) rfl)) rfl
theorem tw_1_125 : Cond.fieldLink RX3 56 "SafeShares" "above" "J" ∈ TB := tb_mem (tb_t1 (List.mem_of_getElem? (i := 125) rfl)) rfl
theorem tw_1_126 : Cond.fieldLink RX3 60 "SafeShares" "below" "J" ∈ TB := tb_mem (tb_t1 (List.mem_of_getElem? (i := 126) rfl)) rfl
theorem tw_1_154 : Cond.methodLink RL 13 yX3_safe ∈ TB := tb_mem (tb_t1 (List.mem_of_getElem? (i := 154) rfl)) rfl
theorem tw_1_155 : Cond.instanceMethod yX3_safe ∈ TB := tb_mem (tb_t1 (List.mem_of_getElem? (i := 155) rfl)) rfl
theorem tw_1_156 : Cond.selects RX3 yX3_safe yX3_safe ∈ TB := tb_mem (tb_t1 (List.mem_of_getElem? (i := 156) rfl)) rfl
theorem tw_1_157 : Cond.code yX3_safe cX3_safe 4 (some .int) ∈ TB := tb_mem (tb_t1 (List.mem_of_getElem? (i := 157) rfl)) rfl
theorem tw_1_158 : Cond.methodLink RX3 63 yX3_isWithin ∈ TB := tb_mem (tb_t1 (List.mem_of_getElem? (i := 158) rfl)) rfl
theorem tw_1_159 : Cond.static yX3_isWithin ∈ TB := tb_mem (tb_t1 (List.mem_of_getElem? (i := 159) rfl)) rfl
theorem tw_1_160 : Cond.code yX3_isWithin cX3_isWithin 3 (some .boolean) ∈ TB := tb_mem (tb_t1 (List.mem_of_getElem? (i := 160) rfl)) rfl
theorem tw_1_161 : Cond.methodLink RX3 67 yX3_refuseBad ∈ TB := tb_mem (tb_t1 (List.mem_of_getElem? (i := 161) rfl)) rfl
theorem tw_1_163 : Cond.instanceMethod yX3_refuseBad ∈ TB := tb_mem (tb_t1 (List.mem_of_getElem? (i := 163) rfl)) rfl
theorem tw_1_164 : Cond.code yX3_refuseBad cX3_refuseBad 1 (some .int) ∈ TB := tb_mem (tb_t1 (List.mem_of_getElem? (i := 164) rfl)) rfl
theorem tw_1_165 : Cond.methodLink RX3 120 yX3_refuseBadAs ∈ TB := tb_mem (tb_t1 (List.mem_of_getElem? (i := 165) rfl)) rfl
theorem tw_1_167 : Cond.instanceMethod yX3_refuseBadAs ∈ TB := tb_mem (tb_t1 (List.mem_of_getElem? (i := 167) rfl)) rfl
theorem tw_1_168 : Cond.code yX3_refuseBadAs cX3_refuseBadAs 2 (some .int) ∈ TB := tb_mem (tb_t1 (List.mem_of_getElem? (i := 168) rfl)) rfl
theorem tw_1_169 : Cond.methodLink RX3 74 yX0_begin ∈ TB := tb_mem (tb_t1 (List.mem_of_getElem? (i := 169) rfl)) rfl
theorem tw_1_170 : Cond.instanceMethod yX0_begin ∈ TB := tb_mem (tb_t1 (List.mem_of_getElem? (i := 170) rfl)) rfl
theorem tw_1_171 : Cond.selects RX0 yX0_begin yX0_begin ∈ TB := tb_mem (tb_t1 (List.mem_of_getElem? (i := 171) rfl)) rfl
theorem tw_1_172 : Cond.code yX0_begin cX0_begin 3 none ∈ TB := tb_mem (tb_t1 (List.mem_of_getElem? (i := 172) rfl)) rfl
theorem tw_1_173 : Cond.methodLink RX0 54 yJ7_fill_53178 ∈ TB := tb_mem (tb_t1 (List.mem_of_getElem? (i := 173) rfl)) rfl
theorem tw_1_174 : Cond.methodLink RX0 60 yX2_empty ∈ TB := tb_mem (tb_t1 (List.mem_of_getElem? (i := 174) rfl)) rfl
theorem tw_1_175 : Cond.instanceMethod yX2_empty ∈ TB := tb_mem (tb_t1 (List.mem_of_getElem? (i := 175) rfl)) rfl
theorem tw_1_176 : Cond.selects RX2 yX2_empty yX2_empty ∈ TB := tb_mem (tb_t1 (List.mem_of_getElem? (i := 176) rfl)) rfl
theorem tw_1_177 : Cond.code yX2_empty cX2_empty 1 none ∈ TB := tb_mem (tb_t1 (List.mem_of_getElem? (i := 177) rfl)) rfl
theorem tw_1_178 : Cond.methodLink RL 18 yX3_holder ∈ TB := tb_mem (tb_t1 (List.mem_of_getElem? (i := 178) rfl)) rfl
theorem tw_1_179 : Cond.instanceMethod yX3_holder ∈ TB := tb_mem (tb_t1 (List.mem_of_getElem? (i := 179) rfl)) rfl
theorem tw_1_180 : Cond.selects RX3 yX3_holder yX3_holder ∈ TB := tb_mem (tb_t1 (List.mem_of_getElem? (i := 180) rfl)) rfl
theorem tw_1_181 : Cond.code yX3_holder cX3_holder 3 (some .int) ∈ TB := tb_mem (tb_t1 (List.mem_of_getElem? (i := 181) rfl)) rfl
theorem tw_1_182 : Cond.methodLink RX3 78 yX0_isFull ∈ TB := tb_mem (tb_t1 (List.mem_of_getElem? (i := 182) rfl)) rfl
theorem tw_1_183 : Cond.instanceMethod yX0_isFull ∈ TB := tb_mem (tb_t1 (List.mem_of_getElem? (i := 183) rfl)) rfl
theorem tw_1_184 : Cond.selects RX0 yX0_isFull yX0_isFull ∈ TB := tb_mem (tb_t1 (List.mem_of_getElem? (i := 184) rfl)) rfl
theorem tw_1_185 : Cond.code yX0_isFull cX0_isFull 1 (some .boolean) ∈ TB := tb_mem (tb_t1 (List.mem_of_getElem? (i := 185) rfl)) rfl
theorem tw_1_186 : Cond.methodLink RX3 82 yX3_refuseFull ∈ TB := tb_mem (tb_t1 (List.mem_of_getElem? (i := 186) rfl)) rfl
theorem tw_1_188 : Cond.instanceMethod yX3_refuseFull ∈ TB := tb_mem (tb_t1 (List.mem_of_getElem? (i := 188) rfl)) rfl
theorem tw_1_189 : Cond.code yX3_refuseFull cX3_refuseFull 1 (some .int) ∈ TB := tb_mem (tb_t1 (List.mem_of_getElem? (i := 189) rfl)) rfl
theorem tw_1_190 : Cond.methodLink RX3 85 yX0_addHolder ∈ TB := tb_mem (tb_t1 (List.mem_of_getElem? (i := 190) rfl)) rfl
theorem tw_1_191 : Cond.instanceMethod yX0_addHolder ∈ TB := tb_mem (tb_t1 (List.mem_of_getElem? (i := 191) rfl)) rfl
theorem tw_1_192 : Cond.selects RX0 yX0_addHolder yX0_addHolder ∈ TB := tb_mem (tb_t1 (List.mem_of_getElem? (i := 192) rfl)) rfl
theorem tw_1_193 : Cond.code yX0_addHolder cX0_addHolder 3 none ∈ TB := tb_mem (tb_t1 (List.mem_of_getElem? (i := 193) rfl)) rfl
theorem tw_1_194 : Cond.methodLink RL 22 yX3_way ∈ TB := tb_mem (tb_t1 (List.mem_of_getElem? (i := 194) rfl)) rfl
theorem tw_1_195 : Cond.instanceMethod yX3_way ∈ TB := tb_mem (tb_t1 (List.mem_of_getElem? (i := 195) rfl)) rfl
theorem tw_1_196 : Cond.selects RX3 yX3_way yX3_way ∈ TB := tb_mem (tb_t1 (List.mem_of_getElem? (i := 196) rfl)) rfl
theorem tw_1_197 : Cond.code yX3_way cX3_way 4 (some .int) ∈ TB := tb_mem (tb_t1 (List.mem_of_getElem? (i := 197) rfl)) rfl
theorem tw_1_198 : Cond.methodLink RX3 91 yX0_factor ∈ TB := tb_mem (tb_t1 (List.mem_of_getElem? (i := 198) rfl)) rfl
theorem tw_1_199 : Cond.instanceMethod yX0_factor ∈ TB := tb_mem (tb_t1 (List.mem_of_getElem? (i := 199) rfl)) rfl
theorem tw_1_200 : Cond.selects RX0 yX0_factor yX0_factor ∈ TB := tb_mem (tb_t1 (List.mem_of_getElem? (i := 200) rfl)) rfl
theorem tw_1_201 : Cond.code yX0_factor cX0_factor 2 (some .int) ∈ TB := tb_mem (tb_t1 (List.mem_of_getElem? (i := 201) rfl)) rfl
theorem tw_1_202 : Cond.methodLink RX3 95 yX0_putFactor ∈ TB := tb_mem (tb_t1 (List.mem_of_getElem? (i := 202) rfl)) rfl
theorem tw_1_203 : Cond.instanceMethod yX0_putFactor ∈ TB := tb_mem (tb_t1 (List.mem_of_getElem? (i := 203) rfl)) rfl
theorem tw_1_204 : Cond.selects RX0 yX0_putFactor yX0_putFactor ∈ TB := tb_mem (tb_t1 (List.mem_of_getElem? (i := 204) rfl)) rfl
theorem tw_1_205 : Cond.code yX0_putFactor cX0_putFactor 3 none ∈ TB := tb_mem (tb_t1 (List.mem_of_getElem? (i := 205) rfl)) rfl
theorem tw_1_206 : Cond.methodLink RL 26 yX3_type ∈ TB := tb_mem (tb_t1 (List.mem_of_getElem? (i := 206) rfl)) rfl
theorem tw_1_207 : Cond.instanceMethod yX3_type ∈ TB := tb_mem (tb_t1 (List.mem_of_getElem? (i := 207) rfl)) rfl
theorem tw_1_208 : Cond.selects RX3 yX3_type yX3_type ∈ TB := tb_mem (tb_t1 (List.mem_of_getElem? (i := 208) rfl)) rfl
theorem tw_1_209 : Cond.code yX3_type cX3_type 2 (some .int) ∈ TB := tb_mem (tb_t1 (List.mem_of_getElem? (i := 209) rfl)) rfl
theorem tw_1_210 : Cond.methodLink RX3 101 yX1_append ∈ TB := tb_mem (tb_t1 (List.mem_of_getElem? (i := 210) rfl)) rfl
theorem tw_1_211 : Cond.instanceMethod yX1_append ∈ TB := tb_mem (tb_t1 (List.mem_of_getElem? (i := 211) rfl)) rfl
theorem tw_1_212 : Cond.selects RX1 yX1_append yX1_append ∈ TB := tb_mem (tb_t1 (List.mem_of_getElem? (i := 212) rfl)) rfl
theorem tw_1_213 : Cond.code yX1_append cX1_append 2 none ∈ TB := tb_mem (tb_t1 (List.mem_of_getElem? (i := 213) rfl)) rfl
theorem tw_1_214 : Cond.methodLink RL 31 yX3_clear ∈ TB := tb_mem (tb_t1 (List.mem_of_getElem? (i := 214) rfl)) rfl
theorem tw_1_215 : Cond.instanceMethod yX3_clear ∈ TB := tb_mem (tb_t1 (List.mem_of_getElem? (i := 215) rfl)) rfl
theorem tw_1_216 : Cond.selects RX3 yX3_clear yX3_clear ∈ TB := tb_mem (tb_t1 (List.mem_of_getElem? (i := 216) rfl)) rfl
theorem tw_1_217 : Cond.code yX3_clear cX3_clear 2 (some .int) ∈ TB := tb_mem (tb_t1 (List.mem_of_getElem? (i := 217) rfl)) rfl
theorem tw_1_218 : Cond.methodLink RL 36 yX3_read ∈ TB := tb_mem (tb_t1 (List.mem_of_getElem? (i := 218) rfl)) rfl
theorem tw_1_219 : Cond.instanceMethod yX3_read ∈ TB := tb_mem (tb_t1 (List.mem_of_getElem? (i := 219) rfl)) rfl
theorem tw_1_220 : Cond.selects RX3 yX3_read yX3_read ∈ TB := tb_mem (tb_t1 (List.mem_of_getElem? (i := 220) rfl)) rfl
theorem tw_1_221 : Cond.code yX3_read cX3_read 2 (some .int) ∈ TB := tb_mem (tb_t1 (List.mem_of_getElem? (i := 221) rfl)) rfl
theorem tw_1_222 : Cond.methodLink RX3 105 yX1_parseInto ∈ TB := tb_mem (tb_t1 (List.mem_of_getElem? (i := 222) rfl)) rfl
theorem tw_1_223 : Cond.instanceMethod yX1_parseInto ∈ TB := tb_mem (tb_t1 (List.mem_of_getElem? (i := 223) rfl)) rfl
theorem tw_1_224 : Cond.selects RX1 yX1_parseInto yX1_parseInto ∈ TB := tb_mem (tb_t1 (List.mem_of_getElem? (i := 224) rfl)) rfl
theorem tw_1_225 : Cond.code yX1_parseInto cX1_parseInto 4 (some .int) ∈ TB := tb_mem (tb_t1 (List.mem_of_getElem? (i := 225) rfl)) rfl
theorem tw_1_226 : Cond.methodLink RX1 28 yX1_readSafeItem ∈ TB := tb_mem (tb_t1 (List.mem_of_getElem? (i := 226) rfl)) rfl
theorem tw_1_228 : Cond.instanceMethod yX1_readSafeItem ∈ TB := tb_mem (tb_t1 (List.mem_of_getElem? (i := 228) rfl)) rfl
theorem tw_1_229 : Cond.code yX1_readSafeItem cX1_readSafeItem 4 (some .boolean) ∈ TB := tb_mem (tb_t1 (List.mem_of_getElem? (i := 229) rfl)) rfl
theorem tw_1_230 : Cond.methodLink RX1 32 yX1_nextToken ∈ TB := tb_mem (tb_t1 (List.mem_of_getElem? (i := 230) rfl)) rfl
theorem tw_1_232 : Cond.instanceMethod yX1_nextToken ∈ TB := tb_mem (tb_t1 (List.mem_of_getElem? (i := 232) rfl)) rfl
theorem tw_1_233 : Cond.code yX1_nextToken cX1_nextToken 3 none ∈ TB := tb_mem (tb_t1 (List.mem_of_getElem? (i := 233) rfl)) rfl
theorem tw_1_234 : Cond.methodLink RX1 77 yX1_byteAt ∈ TB := tb_mem (tb_t1 (List.mem_of_getElem? (i := 234) rfl)) rfl
theorem tw_1_236 : Cond.instanceMethod yX1_byteAt ∈ TB := tb_mem (tb_t1 (List.mem_of_getElem? (i := 236) rfl)) rfl
theorem tw_1_237 : Cond.code yX1_byteAt cX1_byteAt 2 (some .int) ∈ TB := tb_mem (tb_t1 (List.mem_of_getElem? (i := 237) rfl)) rfl
theorem tw_1_238 : Cond.methodLink RX1 94 yX1_tokenBegunBy ∈ TB := tb_mem (tb_t1 (List.mem_of_getElem? (i := 238) rfl)) rfl
theorem tw_1_239 : Cond.static yX1_tokenBegunBy ∈ TB := tb_mem (tb_t1 (List.mem_of_getElem? (i := 239) rfl)) rfl
theorem tw_2_0 : Cond.code yX1_tokenBegunBy cX1_tokenBegunBy 1 (some .int) ∈ TB := tb_mem (tb_t2 (List.mem_of_getElem? (i := 0) rfl)) rfl
theorem tw_2_1 : Cond.methodLink RX1 97 yX1_isLong ∈ TB := tb_mem (tb_t2 (List.mem_of_getElem? (i := 1) rfl)) rfl
theorem tw_2_2 : Cond.static yX1_isLong ∈ TB := tb_mem (tb_t2 (List.mem_of_getElem? (i := 2) rfl)) rfl
theorem tw_2_3 : Cond.code yX1_isLong cX1_isLong 1 (some .boolean) ∈ TB := tb_mem (tb_t2 (List.mem_of_getElem? (i := 3) rfl)) rfl
theorem tw_2_5 : Cond.methodLink RX1 40 yX1_isWord ∈ TB := tb_mem (tb_t2 (List.mem_of_getElem? (i := 5) rfl)) rfl
theorem tw_2_7 : Cond.instanceMethod yX1_isWord ∈ TB := tb_mem (tb_t2 (List.mem_of_getElem? (i := 7) rfl)) rfl
theorem tw_2_8 : Cond.code yX1_isWord cX1_isWord 3 (some .boolean) ∈ TB := tb_mem (tb_t2 (List.mem_of_getElem? (i := 8) rfl)) rfl
theorem tw_2_9 : Cond.methodLink RX1 85 yJ0_length_8abf5 ∈ TB := tb_mem (tb_t2 (List.mem_of_getElem? (i := 9) rfl)) rfl
theorem tw_2_10 : Cond.instanceMethod yJ0_length_8abf5 ∈ TB := tb_mem (tb_t2 (List.mem_of_getElem? (i := 10) rfl)) rfl
theorem tw_2_11 : Cond.selects RJ0 yJ0_length_8abf5 yJ0_length_8abf5 ∈ TB := tb_mem (tb_t2 (List.mem_of_getElem? (i := 11) rfl)) rfl
theorem tw_2_12 : Cond.code yJ0_length_8abf5 cJ0_length_8abf5 1 (some .int) ∈ TB := tb_mem (tb_t2 (List.mem_of_getElem? (i := 12) rfl)) rfl
theorem tw_2_13 : Cond.methodLink RJ0 335 yJ0_coder_7d493 ∈ TB := tb_mem (tb_t2 (List.mem_of_getElem? (i := 13) rfl)) rfl
theorem tw_2_14 : Cond.instanceMethod yJ0_coder_7d493 ∈ TB := tb_mem (tb_t2 (List.mem_of_getElem? (i := 14) rfl)) rfl
theorem tw_2_15 : Cond.selects RJ0 yJ0_coder_7d493 yJ0_coder_7d493 ∈ TB := tb_mem (tb_t2 (List.mem_of_getElem? (i := 15) rfl)) rfl
theorem tw_2_16 : Cond.code yJ0_coder_7d493 cJ0_coder_7d493 1 (some .byte) ∈ TB := tb_mem (tb_t2 (List.mem_of_getElem? (i := 16) rfl)) rfl
theorem tw_2_17 : Cond.fieldLink RJ0 38 "java/lang/String" "COMPACT_STRINGS" "Z" ∈ TB := tb_mem (tb_t2 (List.mem_of_getElem? (i := 17) rfl)) rfl
theorem tw_2_19 : Cond.methodLink RX1 90 yJ0_charAt_5068e ∈ TB := tb_mem (tb_t2 (List.mem_of_getElem? (i := 19) rfl)) rfl
theorem tw_2_20 : Cond.instanceMethod yJ0_charAt_5068e ∈ TB := tb_mem (tb_t2 (List.mem_of_getElem? (i := 20) rfl)) rfl
theorem tw_2_21 : Cond.selects RJ0 yJ0_charAt_5068e yJ0_charAt_5068e ∈ TB := tb_mem (tb_t2 (List.mem_of_getElem? (i := 21) rfl)) rfl
theorem tw_2_22 : Cond.code yJ0_charAt_5068e cJ0_charAt_5068e 2 (some .char) ∈ TB := tb_mem (tb_t2 (List.mem_of_getElem? (i := 22) rfl)) rfl
theorem tw_2_23 : Cond.methodLink RJ0 492 yJ0_isLatin1_aae02 ∈ TB := tb_mem (tb_t2 (List.mem_of_getElem? (i := 23) rfl)) rfl
theorem tw_2_24 : Cond.instanceMethod yJ0_isLatin1_aae02 ∈ TB := tb_mem (tb_t2 (List.mem_of_getElem? (i := 24) rfl)) rfl
theorem tw_2_25 : Cond.selects RJ0 yJ0_isLatin1_aae02 yJ0_isLatin1_aae02 ∈ TB := tb_mem (tb_t2 (List.mem_of_getElem? (i := 25) rfl)) rfl
theorem tw_2_26 : Cond.code yJ0_isLatin1_aae02 cJ0_isLatin1_aae02 1 (some .boolean) ∈ TB := tb_mem (tb_t2 (List.mem_of_getElem? (i := 26) rfl)) rfl
theorem tw_2_27 : Cond.methodLink RJ0 495 yJ1_charAt_3b067 ∈ TB := tb_mem (tb_t2 (List.mem_of_getElem? (i := 27) rfl)) rfl
theorem tw_2_28 : Cond.static yJ1_charAt_3b067 ∈ TB := tb_mem (tb_t2 (List.mem_of_getElem? (i := 28) rfl)) rfl
theorem tw_2_29 : Cond.code yJ1_charAt_3b067 cJ1_charAt_3b067 2 (some .char) ∈ TB := tb_mem (tb_t2 (List.mem_of_getElem? (i := 29) rfl)) rfl
theorem tw_2_30 : Cond.methodLink RJ1 9 yJ0_checkIndex_df160 ∈ TB := tb_mem (tb_t2 (List.mem_of_getElem? (i := 30) rfl)) rfl
theorem tw_2_31 : Cond.static yJ0_checkIndex_df160 ∈ TB := tb_mem (tb_t2 (List.mem_of_getElem? (i := 31) rfl)) rfl
theorem tw_2_32 : Cond.code yJ0_checkIndex_df160 cJ0_checkIndex_df160 2 none ∈ TB := tb_mem (tb_t2 (List.mem_of_getElem? (i := 32) rfl)) rfl
theorem tw_2_33 : Cond.fieldLink RJ0 1053 "jdk/internal/util/Preconditions" "SIOOBE_FORMATTER" "Ljava/util/function/BiFunction;" ∈ TB := tb_mem (tb_t2 (List.mem_of_getElem? (i := 33) rfl)) rfl
theorem tw_2_35 : Cond.methodLink RJ0 1059 yJ3_checkIndex_8e157 ∈ TB := tb_mem (tb_t2 (List.mem_of_getElem? (i := 35) rfl)) rfl
theorem tw_2_36 : Cond.static yJ3_checkIndex_8e157 ∈ TB := tb_mem (tb_t2 (List.mem_of_getElem? (i := 36) rfl)) rfl
theorem tw_2_37 : Cond.code yJ3_checkIndex_8e157 cJ3_checkIndex_8e157 3 (some .int) ∈ TB := tb_mem (tb_t2 (List.mem_of_getElem? (i := 37) rfl)) rfl
theorem tw_2_38 : Cond.methodLink RJ0 498 yJ2_charAt_3b067 ∈ TB := tb_mem (tb_t2 (List.mem_of_getElem? (i := 38) rfl)) rfl
theorem tw_2_39 : Cond.static yJ2_charAt_3b067 ∈ TB := tb_mem (tb_t2 (List.mem_of_getElem? (i := 39) rfl)) rfl
theorem tw_2_40 : Cond.code yJ2_charAt_3b067 cJ2_charAt_3b067 2 (some .char) ∈ TB := tb_mem (tb_t2 (List.mem_of_getElem? (i := 40) rfl)) rfl
theorem tw_2_41 : Cond.methodLink RJ2 67 yJ2_checkIndex_2214a ∈ TB := tb_mem (tb_t2 (List.mem_of_getElem? (i := 41) rfl)) rfl
theorem tw_2_42 : Cond.static yJ2_checkIndex_2214a ∈ TB := tb_mem (tb_t2 (List.mem_of_getElem? (i := 42) rfl)) rfl
theorem tw_2_43 : Cond.code yJ2_checkIndex_2214a cJ2_checkIndex_2214a 2 none ∈ TB := tb_mem (tb_t2 (List.mem_of_getElem? (i := 43) rfl)) rfl
theorem tw_2_44 : Cond.methodLink RJ2 48 yJ2_length_9d52b ∈ TB := tb_mem (tb_t2 (List.mem_of_getElem? (i := 44) rfl)) rfl
theorem tw_2_45 : Cond.static yJ2_length_9d52b ∈ TB := tb_mem (tb_t2 (List.mem_of_getElem? (i := 45) rfl)) rfl
theorem tw_2_46 : Cond.code yJ2_length_9d52b cJ2_length_9d52b 1 (some .int) ∈ TB := tb_mem (tb_t2 (List.mem_of_getElem? (i := 46) rfl)) rfl
theorem tw_2_47 : Cond.methodLink RJ2 414 yJ0_checkIndex_df160 ∈ TB := tb_mem (tb_t2 (List.mem_of_getElem? (i := 47) rfl)) rfl
theorem tw_2_48 : Cond.methodLink RJ2 71 yJ2_getChar_3b067 ∈ TB := tb_mem (tb_t2 (List.mem_of_getElem? (i := 48) rfl)) rfl
theorem tw_2_49 : Cond.static yJ2_getChar_3b067 ∈ TB := tb_mem (tb_t2 (List.mem_of_getElem? (i := 49) rfl)) rfl
theorem tw_2_50 : Cond.code yJ2_getChar_3b067 cJ2_getChar_3b067 2 (some .char) ∈ TB := tb_mem (tb_t2 (List.mem_of_getElem? (i := 50) rfl)) rfl
theorem tw_2_51 : Cond.fieldLink RJ2 44 "java/lang/StringUTF16" "$assertionsDisabled" "Z" ∈ TB := tb_mem (tb_t2 (List.mem_of_getElem? (i := 51) rfl)) rfl
theorem tw_2_53 : Cond.fieldLink RJ2 59 "java/lang/StringUTF16" "HI_BYTE_SHIFT" "I" ∈ TB := tb_mem (tb_t2 (List.mem_of_getElem? (i := 53) rfl)) rfl
theorem tw_2_55 : Cond.fieldLink RJ2 63 "java/lang/StringUTF16" "LO_BYTE_SHIFT" "I" ∈ TB := tb_mem (tb_t2 (List.mem_of_getElem? (i := 55) rfl)) rfl
theorem tw_2_57 : Cond.methodLink RX1 44 yX1_nextNumber ∈ TB := tb_mem (tb_t2 (List.mem_of_getElem? (i := 57) rfl)) rfl
theorem tw_2_59 : Cond.instanceMethod yX1_nextNumber ∈ TB := tb_mem (tb_t2 (List.mem_of_getElem? (i := 59) rfl)) rfl
theorem tw_2_60 : Cond.code yX1_nextNumber cX1_nextNumber 5 (some .int) ∈ TB := tb_mem (tb_t2 (List.mem_of_getElem? (i := 60) rfl)) rfl
theorem tw_2_62 : Cond.methodLink RX1 48 yX0_begin ∈ TB := tb_mem (tb_t2 (List.mem_of_getElem? (i := 62) rfl)) rfl
theorem tw_2_63 : Cond.methodLink RX1 54 yX1_nextIsStop ∈ TB := tb_mem (tb_t2 (List.mem_of_getElem? (i := 63) rfl)) rfl
theorem tw_2_65 : Cond.instanceMethod yX1_nextIsStop ∈ TB := tb_mem (tb_t2 (List.mem_of_getElem? (i := 65) rfl)) rfl
theorem tw_2_66 : Cond.code yX1_nextIsStop cX1_nextIsStop 1 (some .boolean) ∈ TB := tb_mem (tb_t2 (List.mem_of_getElem? (i := 66) rfl)) rfl
theorem tw_2_67 : Cond.methodLink RX1 35 yX1_readOtherItem ∈ TB := tb_mem (tb_t2 (List.mem_of_getElem? (i := 67) rfl)) rfl
theorem tw_2_69 : Cond.instanceMethod yX1_readOtherItem ∈ TB := tb_mem (tb_t2 (List.mem_of_getElem? (i := 69) rfl)) rfl
theorem tw_2_70 : Cond.code yX1_readOtherItem cX1_readOtherItem 2 (some .boolean) ∈ TB := tb_mem (tb_t2 (List.mem_of_getElem? (i := 70) rfl)) rfl
theorem tw_2_72 : Cond.methodLink RX1 60 yX1_readWay ∈ TB := tb_mem (tb_t2 (List.mem_of_getElem? (i := 72) rfl)) rfl
theorem tw_2_74 : Cond.instanceMethod yX1_readWay ∈ TB := tb_mem (tb_t2 (List.mem_of_getElem? (i := 74) rfl)) rfl
theorem tw_2_75 : Cond.code yX1_readWay cX1_readWay 4 (some .boolean) ∈ TB := tb_mem (tb_t2 (List.mem_of_getElem? (i := 75) rfl)) rfl
theorem tw_2_76 : Cond.methodLink RX1 71 yX0_putFactor ∈ TB := tb_mem (tb_t2 (List.mem_of_getElem? (i := 76) rfl)) rfl
theorem tw_2_78 : Cond.methodLink RX1 65 yX0_isFull ∈ TB := tb_mem (tb_t2 (List.mem_of_getElem? (i := 78) rfl)) rfl
theorem tw_2_79 : Cond.methodLink RX1 68 yX1_readHolder ∈ TB := tb_mem (tb_t2 (List.mem_of_getElem? (i := 79) rfl)) rfl
theorem tw_2_81 : Cond.instanceMethod yX1_readHolder ∈ TB := tb_mem (tb_t2 (List.mem_of_getElem? (i := 81) rfl)) rfl
theorem tw_2_82 : Cond.code yX1_readHolder cX1_readHolder 4 (some .boolean) ∈ TB := tb_mem (tb_t2 (List.mem_of_getElem? (i := 82) rfl)) rfl
theorem tw_2_83 : Cond.methodLink RX1 74 yX0_addHolder ∈ TB := tb_mem (tb_t2 (List.mem_of_getElem? (i := 83) rfl)) rfl
theorem tw_2_84 : Cond.methodLink RX3 112 yX0_copyFrom ∈ TB := tb_mem (tb_t2 (List.mem_of_getElem? (i := 84) rfl)) rfl
theorem tw_2_85 : Cond.instanceMethod yX0_copyFrom ∈ TB := tb_mem (tb_t2 (List.mem_of_getElem? (i := 85) rfl)) rfl
theorem tw_2_86 : Cond.selects RX0 yX0_copyFrom yX0_copyFrom ∈ TB := tb_mem (tb_t2 (List.mem_of_getElem? (i := 86) rfl)) rfl
theorem tw_2_87 : Cond.code yX0_copyFrom cX0_copyFrom 2 none ∈ TB := tb_mem (tb_t2 (List.mem_of_getElem? (i := 87) rfl)) rfl
theorem tw_2_88 : Cond.methodLink RX0 63 arraycopyName ∈ TB := tb_mem (tb_t2 (List.mem_of_getElem? (i := 88) rfl)) rfl
theorem tw_2_89 : Cond.static arraycopyName ∈ TB := tb_mem (tb_t2 (List.mem_of_getElem? (i := 89) rfl)) rfl
theorem tw_2_90 : Cond.native arraycopyName ∈ TB := tb_mem (tb_t2 (List.mem_of_getElem? (i := 90) rfl)) rfl
theorem tw_2_91 : Cond.methodLink RX0 69 yX2_copyWithout ∈ TB := tb_mem (tb_t2 (List.mem_of_getElem? (i := 91) rfl)) rfl
theorem tw_2_92 : Cond.instanceMethod yX2_copyWithout ∈ TB := tb_mem (tb_t2 (List.mem_of_getElem? (i := 92) rfl)) rfl
theorem tw_2_93 : Cond.selects RX2 yX2_copyWithout yX2_copyWithout ∈ TB := tb_mem (tb_t2 (List.mem_of_getElem? (i := 93) rfl)) rfl
theorem tw_2_94 : Cond.code yX2_copyWithout cX2_copyWithout 4 none ∈ TB := tb_mem (tb_t2 (List.mem_of_getElem? (i := 94) rfl)) rfl
theorem tw_2_96 : Cond.static yX3_isIn ∈ TB := tb_mem (tb_t2 (List.mem_of_getElem? (i := 96) rfl)) rfl
theorem tw_2_97 : Cond.code yX3_isIn cX3_isIn 2 (some .boolean) ∈ TB := tb_mem (tb_t2 (List.mem_of_getElem? (i := 97) rfl)) rfl
theorem tw_2_98 : Cond.methodLink RX2 35 yX2_numberAt ∈ TB := tb_mem (tb_t2 (List.mem_of_getElem? (i := 98) rfl)) rfl
theorem tw_2_99 : Cond.instanceMethod yX2_numberAt ∈ TB := tb_mem (tb_t2 (List.mem_of_getElem? (i := 99) rfl)) rfl
theorem tw_2_100 : Cond.selects RX2 yX2_numberAt yX2_numberAt ∈ TB := tb_mem (tb_t2 (List.mem_of_getElem? (i := 100) rfl)) rfl
theorem tw_2_101 : Cond.code yX2_numberAt cX2_numberAt 2 (some .int) ∈ TB := tb_mem (tb_t2 (List.mem_of_getElem? (i := 101) rfl)) rfl
theorem tw_2_102 : Cond.methodLink RL 40 yX3_day ∈ TB := tb_mem (tb_t2 (List.mem_of_getElem? (i := 102) rfl)) rfl
theorem tw_2_103 : Cond.instanceMethod yX3_day ∈ TB := tb_mem (tb_t2 (List.mem_of_getElem? (i := 103) rfl)) rfl
theorem tw_2_104 : Cond.selects RX3 yX3_day yX3_day ∈ TB := tb_mem (tb_t2 (List.mem_of_getElem? (i := 104) rfl)) rfl
theorem tw_2_105 : Cond.code yX3_day cX3_day 2 (some .int) ∈ TB := tb_mem (tb_t2 (List.mem_of_getElem? (i := 105) rfl)) rfl
theorem tw_2_106 : Cond.methodLink RX3 116 yX0_hasAll ∈ TB := tb_mem (tb_t2 (List.mem_of_getElem? (i := 106) rfl)) rfl
theorem tw_2_107 : Cond.instanceMethod yX0_hasAll ∈ TB := tb_mem (tb_t2 (List.mem_of_getElem? (i := 107) rfl)) rfl
theorem tw_2_108 : Cond.selects RX0 yX0_hasAll yX0_hasAll ∈ TB := tb_mem (tb_t2 (List.mem_of_getElem? (i := 108) rfl)) rfl
theorem tw_2_109 : Cond.code yX0_hasAll cX0_hasAll 2 (some .boolean) ∈ TB := tb_mem (tb_t2 (List.mem_of_getElem? (i := 109) rfl)) rfl
theorem tw_2_110 : Cond.methodLink RX0 73 yX0_everyone ∈ TB := tb_mem (tb_t2 (List.mem_of_getElem? (i := 110) rfl)) rfl
theorem tw_2_111 : Cond.instanceMethod yX0_everyone ∈ TB := tb_mem (tb_t2 (List.mem_of_getElem? (i := 111) rfl)) rfl
theorem tw_2_112 : Cond.selects RX0 yX0_everyone yX0_everyone ∈ TB := tb_mem (tb_t2 (List.mem_of_getElem? (i := 112) rfl)) rfl
theorem tw_2_113 : Cond.code yX0_everyone cX0_everyone 1 (some .int) ∈ TB := tb_mem (tb_t2 (List.mem_of_getElem? (i := 113) rfl)) rfl
theorem tw_2_114 : Cond.methodLink RX3 123 yX0_remember ∈ TB := tb_mem (tb_t2 (List.mem_of_getElem? (i := 114) rfl)) rfl
theorem tw_2_115 : Cond.instanceMethod yX0_remember ∈ TB := tb_mem (tb_t2 (List.mem_of_getElem? (i := 115) rfl)) rfl
theorem tw_2_116 : Cond.selects RX0 yX0_remember yX0_remember ∈ TB := tb_mem (tb_t2 (List.mem_of_getElem? (i := 116) rfl)) rfl
theorem tw_2_117 : Cond.code yX0_remember cX0_remember 2 none ∈ TB := tb_mem (tb_t2 (List.mem_of_getElem? (i := 117) rfl)) rfl
theorem tw_2_118 : Cond.methodLink RX3 126 yX0_passDay ∈ TB := tb_mem (tb_t2 (List.mem_of_getElem? (i := 118) rfl)) rfl
theorem tw_2_119 : Cond.instanceMethod yX0_passDay ∈ TB := tb_mem (tb_t2 (List.mem_of_getElem? (i := 119) rfl)) rfl
theorem tw_2_120 : Cond.selects RX0 yX0_passDay yX0_passDay ∈ TB := tb_mem (tb_t2 (List.mem_of_getElem? (i := 120) rfl)) rfl
theorem tw_2_121 : Cond.code yX0_passDay cX0_passDay 4 (some .int) ∈ TB := tb_mem (tb_t2 (List.mem_of_getElem? (i := 121) rfl)) rfl
theorem tw_2_122 : Cond.methodLink RX0 120 yX0_outcome ∈ TB := tb_mem (tb_t2 (List.mem_of_getElem? (i := 122) rfl)) rfl
theorem tw_2_123 : Cond.instanceMethod yX0_outcome ∈ TB := tb_mem (tb_t2 (List.mem_of_getElem? (i := 123) rfl)) rfl
theorem tw_2_124 : Cond.selects RX0 yX0_outcome yX0_outcome ∈ TB := tb_mem (tb_t2 (List.mem_of_getElem? (i := 124) rfl)) rfl
theorem tw_2_125 : Cond.code yX0_outcome cX0_outcome 5 (some .int) ∈ TB := tb_mem (tb_t2 (List.mem_of_getElem? (i := 125) rfl)) rfl
theorem tw_2_126 : Cond.methodLink RX0 113 yX0_collect ∈ TB := tb_mem (tb_t2 (List.mem_of_getElem? (i := 126) rfl)) rfl
theorem tw_2_127 : Cond.instanceMethod yX0_collect ∈ TB := tb_mem (tb_t2 (List.mem_of_getElem? (i := 127) rfl)) rfl
theorem tw_2_128 : Cond.selects RX0 yX0_collect yX0_collect ∈ TB := tb_mem (tb_t2 (List.mem_of_getElem? (i := 128) rfl)) rfl
theorem tw_2_129 : Cond.code yX0_collect cX0_collect 6 none ∈ TB := tb_mem (tb_t2 (List.mem_of_getElem? (i := 129) rfl)) rfl
theorem tw_2_130 : Cond.methodLink RX0 104 yJ6_bitCount_0f7a4 ∈ TB := tb_mem (tb_t2 (List.mem_of_getElem? (i := 130) rfl)) rfl
theorem tw_2_131 : Cond.static yJ6_bitCount_0f7a4 ∈ TB := tb_mem (tb_t2 (List.mem_of_getElem? (i := 131) rfl)) rfl
theorem tw_2_132 : Cond.code yJ6_bitCount_0f7a4 cJ6_bitCount_0f7a4 1 (some .int) ∈ TB := tb_mem (tb_t2 (List.mem_of_getElem? (i := 132) rfl)) rfl
theorem tw_2_133 : Cond.constant RJ6 265 (1431655765) ∈ TB := tb_mem (tb_t2 (List.mem_of_getElem? (i := 133) rfl)) rfl
theorem tw_2_134 : Cond.constant RJ6 266 (858993459) ∈ TB := tb_mem (tb_t2 (List.mem_of_getElem? (i := 134) rfl)) rfl
theorem tw_2_135 : Cond.constant RJ6 267 (252645135) ∈ TB := tb_mem (tb_t2 (List.mem_of_getElem? (i := 135) rfl)) rfl
theorem tw_2_137 : Cond.methodLink RX0 109 yX0_wordOf ∈ TB := tb_mem (tb_t2 (List.mem_of_getElem? (i := 137) rfl)) rfl
theorem tw_2_138 : Cond.instanceMethod yX0_wordOf ∈ TB := tb_mem (tb_t2 (List.mem_of_getElem? (i := 138) rfl)) rfl
theorem tw_2_139 : Cond.selects RX0 yX0_wordOf yX0_wordOf ∈ TB := tb_mem (tb_t2 (List.mem_of_getElem? (i := 139) rfl)) rfl
theorem tw_2_140 : Cond.code yX0_wordOf cX0_wordOf 6 (some .int) ∈ TB := tb_mem (tb_t2 (List.mem_of_getElem? (i := 140) rfl)) rfl
theorem tw_2_141 : Cond.methodLink RX0 84 yX0_shareOf ∈ TB := tb_mem (tb_t2 (List.mem_of_getElem? (i := 141) rfl)) rfl
theorem tw_2_142 : Cond.instanceMethod yX0_shareOf ∈ TB := tb_mem (tb_t2 (List.mem_of_getElem? (i := 142) rfl)) rfl
theorem tw_2_143 : Cond.selects RX0 yX0_shareOf yX0_shareOf ∈ TB := tb_mem (tb_t2 (List.mem_of_getElem? (i := 143) rfl)) rfl
theorem tw_2_144 : Cond.code yX0_shareOf cX0_shareOf 4 (some .int) ∈ TB := tb_mem (tb_t2 (List.mem_of_getElem? (i := 144) rfl)) rfl
theorem tw_2_145 : Cond.methodLink RX0 77 yX0_factor ∈ TB := tb_mem (tb_t2 (List.mem_of_getElem? (i := 145) rfl)) rfl
theorem tw_2_147 : Cond.static yX3_leftOver ∈ TB := tb_mem (tb_t2 (List.mem_of_getElem? (i := 147) rfl)) rfl
theorem tw_2_148 : Cond.code yX3_leftOver cX3_leftOver 2 (some .int) ∈ TB := tb_mem (tb_t2 (List.mem_of_getElem? (i := 148) rfl)) rfl
theorem tw_2_149 : Cond.methodLink RX0 87 yX0_extraOf ∈ TB := tb_mem (tb_t2 (List.mem_of_getElem? (i := 149) rfl)) rfl
theorem tw_2_150 : Cond.instanceMethod yX0_extraOf ∈ TB := tb_mem (tb_t2 (List.mem_of_getElem? (i := 150) rfl)) rfl
theorem tw_2_151 : Cond.selects RX0 yX0_extraOf yX0_extraOf ∈ TB := tb_mem (tb_t2 (List.mem_of_getElem? (i := 151) rfl)) rfl
theorem tw_2_152 : Cond.code yX0_extraOf cX0_extraOf 2 (some .int) ∈ TB := tb_mem (tb_t2 (List.mem_of_getElem? (i := 152) rfl)) rfl
theorem tw_2_153 : Cond.methodLink RX0 90 yX0_kindOf ∈ TB := tb_mem (tb_t2 (List.mem_of_getElem? (i := 153) rfl)) rfl
theorem tw_2_154 : Cond.instanceMethod yX0_kindOf ∈ TB := tb_mem (tb_t2 (List.mem_of_getElem? (i := 154) rfl)) rfl
theorem tw_2_155 : Cond.selects RX0 yX0_kindOf yX0_kindOf ∈ TB := tb_mem (tb_t2 (List.mem_of_getElem? (i := 155) rfl)) rfl
theorem tw_2_156 : Cond.code yX0_kindOf cX0_kindOf 2 (some .int) ∈ TB := tb_mem (tb_t2 (List.mem_of_getElem? (i := 156) rfl)) rfl
theorem tw_2_157 : Cond.methodLink RX0 93 yX0_isForgotten ∈ TB := tb_mem (tb_t2 (List.mem_of_getElem? (i := 157) rfl)) rfl
theorem tw_2_158 : Cond.static yX0_isForgotten ∈ TB := tb_mem (tb_t2 (List.mem_of_getElem? (i := 158) rfl)) rfl
theorem tw_2_159 : Cond.code yX0_isForgotten cX0_isForgotten 3 (some .boolean) ∈ TB := tb_mem (tb_t2 (List.mem_of_getElem? (i := 159) rfl)) rfl
theorem tw_2_160 : Cond.methodLink RX0 143 yJ9_floorMod_7cf53 ∈ TB := tb_mem (tb_t2 (List.mem_of_getElem? (i := 160) rfl)) rfl
theorem tw_2_161 : Cond.static yJ9_floorMod_7cf53 ∈ TB := tb_mem (tb_t2 (List.mem_of_getElem? (i := 161) rfl)) rfl
theorem tw_2_162 : Cond.code yJ9_floorMod_7cf53 cJ9_floorMod_7cf53 3 (some .int) ∈ TB := tb_mem (tb_t2 (List.mem_of_getElem? (i := 162) rfl)) rfl
theorem tw_2_163 : Cond.methodLink RX0 100 yX2_put ∈ TB := tb_mem (tb_t2 (List.mem_of_getElem? (i := 163) rfl)) rfl
theorem tw_2_164 : Cond.instanceMethod yX2_put ∈ TB := tb_mem (tb_t2 (List.mem_of_getElem? (i := 164) rfl)) rfl
theorem tw_2_165 : Cond.selects RX2 yX2_put yX2_put ∈ TB := tb_mem (tb_t2 (List.mem_of_getElem? (i := 165) rfl)) rfl
theorem tw_2_166 : Cond.code yX2_put cX2_put 3 none ∈ TB := tb_mem (tb_t2 (List.mem_of_getElem? (i := 166) rfl)) rfl
theorem tw_2_167 : Cond.methodLink RX0 117 yX2_foundBy ∈ TB := tb_mem (tb_t2 (List.mem_of_getElem? (i := 167) rfl)) rfl
theorem tw_2_168 : Cond.instanceMethod yX2_foundBy ∈ TB := tb_mem (tb_t2 (List.mem_of_getElem? (i := 168) rfl)) rfl
theorem tw_2_169 : Cond.selects RX2 yX2_foundBy yX2_foundBy ∈ TB := tb_mem (tb_t2 (List.mem_of_getElem? (i := 169) rfl)) rfl
theorem tw_2_170 : Cond.code yX2_foundBy cX2_foundBy 3 (some .int) ∈ TB := tb_mem (tb_t2 (List.mem_of_getElem? (i := 170) rfl)) rfl
theorem tw_2_171 : Cond.methodLink RX2 38 yX2_firstBits ∈ TB := tb_mem (tb_t2 (List.mem_of_getElem? (i := 171) rfl)) rfl
theorem tw_2_173 : Cond.instanceMethod yX2_firstBits ∈ TB := tb_mem (tb_t2 (List.mem_of_getElem? (i := 173) rfl)) rfl
theorem tw_2_174 : Cond.code yX2_firstBits cX2_firstBits 5 (some .int) ∈ TB := tb_mem (tb_t2 (List.mem_of_getElem? (i := 174) rfl)) rfl
theorem tw_2_175 : Cond.methodLink RX2 41 yX2_valueAt ∈ TB := tb_mem (tb_t2 (List.mem_of_getElem? (i := 175) rfl)) rfl
theorem tw_2_177 : Cond.instanceMethod yX2_valueAt ∈ TB := tb_mem (tb_t2 (List.mem_of_getElem? (i := 177) rfl)) rfl
theorem tw_2_178 : Cond.code yX2_valueAt cX2_valueAt 5 (some .int) ∈ TB := tb_mem (tb_t2 (List.mem_of_getElem? (i := 178) rfl)) rfl
theorem tw_2_179 : Cond.methodLink RX2 53 yX2_weight ∈ TB := tb_mem (tb_t2 (List.mem_of_getElem? (i := 179) rfl)) rfl
theorem tw_2_181 : Cond.instanceMethod yX2_weight ∈ TB := tb_mem (tb_t2 (List.mem_of_getElem? (i := 181) rfl)) rfl
theorem tw_2_182 : Cond.code yX2_weight cX2_weight 6 (some .int) ∈ TB := tb_mem (tb_t2 (List.mem_of_getElem? (i := 182) rfl)) rfl
theorem tw_2_184 : Cond.methodLink RX2 60 yX2_inverse ∈ TB := tb_mem (tb_t2 (List.mem_of_getElem? (i := 184) rfl)) rfl
theorem tw_2_185 : Cond.static yX2_inverse ∈ TB := tb_mem (tb_t2 (List.mem_of_getElem? (i := 185) rfl)) rfl
theorem tw_2_186 : Cond.code yX2_inverse cX2_inverse 2 (some .int) ∈ TB := tb_mem (tb_t2 (List.mem_of_getElem? (i := 186) rfl)) rfl
theorem tw_2_187 : Cond.fieldLink RX2 63 "SafeShares$Told" "INVERSES" "[I" ∈ TB := tb_mem (tb_t2 (List.mem_of_getElem? (i := 187) rfl)) rfl
theorem tw_2_189 : Cond.methodLink RX0 124 yX0_countWrongTry ∈ TB := tb_mem (tb_t2 (List.mem_of_getElem? (i := 189) rfl)) rfl
theorem tw_2_191 : Cond.instanceMethod yX0_countWrongTry ∈ TB := tb_mem (tb_t2 (List.mem_of_getElem? (i := 191) rfl)) rfl
theorem tw_2_192 : Cond.code yX0_countWrongTry cX0_countWrongTry 1 none ∈ TB := tb_mem (tb_t2 (List.mem_of_getElem? (i := 192) rfl)) rfl
theorem tw_2_193 : Cond.methodLink RL 44 yX3_change ∈ TB := tb_mem (tb_t2 (List.mem_of_getElem? (i := 193) rfl)) rfl
theorem tw_2_194 : Cond.instanceMethod yX3_change ∈ TB := tb_mem (tb_t2 (List.mem_of_getElem? (i := 194) rfl)) rfl
theorem tw_2_195 : Cond.selects RX3 yX3_change yX3_change ∈ TB := tb_mem (tb_t2 (List.mem_of_getElem? (i := 195) rfl)) rfl
theorem tw_2_196 : Cond.code yX3_change cX3_change 2 (some .int) ∈ TB := tb_mem (tb_t2 (List.mem_of_getElem? (i := 196) rfl)) rfl
theorem tw_2_197 : Cond.constant RX3 130 (999999) ∈ TB := tb_mem (tb_t2 (List.mem_of_getElem? (i := 197) rfl)) rfl
theorem tw_2_198 : Cond.methodLink RX3 131 yX0_changeWay ∈ TB := tb_mem (tb_t2 (List.mem_of_getElem? (i := 198) rfl)) rfl
theorem tw_2_199 : Cond.instanceMethod yX0_changeWay ∈ TB := tb_mem (tb_t2 (List.mem_of_getElem? (i := 199) rfl)) rfl
theorem tw_2_200 : Cond.selects RX0 yX0_changeWay yX0_changeWay ∈ TB := tb_mem (tb_t2 (List.mem_of_getElem? (i := 200) rfl)) rfl
theorem tw_2_201 : Cond.code yX0_changeWay cX0_changeWay 5 (some .int) ∈ TB := tb_mem (tb_t2 (List.mem_of_getElem? (i := 201) rfl)) rfl
theorem tw_2_203 : Cond.static yX3_nextX ∈ TB := tb_mem (tb_t2 (List.mem_of_getElem? (i := 203) rfl)) rfl
theorem tw_2_204 : Cond.code yX3_nextX cX3_nextX 2 (some .long) ∈ TB := tb_mem (tb_t2 (List.mem_of_getElem? (i := 204) rfl)) rfl
theorem tw_2_205 : Cond.constantLong RX3 269 (1103515245) ∈ TB := tb_mem (tb_t2 (List.mem_of_getElem? (i := 205) rfl)) rfl
theorem tw_2_206 : Cond.constantLong RX3 271 (12345) ∈ TB := tb_mem (tb_t2 (List.mem_of_getElem? (i := 206) rfl)) rfl
theorem tw_2_207 : Cond.constantLong RX3 273 (2147483648) ∈ TB := tb_mem (tb_t2 (List.mem_of_getElem? (i := 207) rfl)) rfl
theorem tw_2_209 : Cond.static yX3_drawn ∈ TB := tb_mem (tb_t2 (List.mem_of_getElem? (i := 209) rfl)) rfl
theorem tw_2_210 : Cond.code yX3_drawn cX3_drawn 3 (some .int) ∈ TB := tb_mem (tb_t2 (List.mem_of_getElem? (i := 210) rfl)) rfl
theorem tw_2_211 : Cond.constantLong RX3 275 (65536) ∈ TB := tb_mem (tb_t2 (List.mem_of_getElem? (i := 211) rfl)) rfl
theorem tw_2_212 : Cond.methodLink RX0 135 yX0_putFactor ∈ TB := tb_mem (tb_t2 (List.mem_of_getElem? (i := 212) rfl)) rfl
theorem tw_2_213 : Cond.methodLink RL 48 yX3_undo ∈ TB := tb_mem (tb_t2 (List.mem_of_getElem? (i := 213) rfl)) rfl
theorem tw_2_214 : Cond.instanceMethod yX3_undo ∈ TB := tb_mem (tb_t2 (List.mem_of_getElem? (i := 214) rfl)) rfl
theorem tw_2_215 : Cond.selects RX3 yX3_undo yX3_undo ∈ TB := tb_mem (tb_t2 (List.mem_of_getElem? (i := 215) rfl)) rfl
theorem tw_2_216 : Cond.code yX3_undo cX3_undo 1 (some .int) ∈ TB := tb_mem (tb_t2 (List.mem_of_getElem? (i := 216) rfl)) rfl
theorem tw_2_217 : Cond.methodLink RX3 134 yX3_refuseNo ∈ TB := tb_mem (tb_t2 (List.mem_of_getElem? (i := 217) rfl)) rfl
theorem tw_2_219 : Cond.instanceMethod yX3_refuseNo ∈ TB := tb_mem (tb_t2 (List.mem_of_getElem? (i := 219) rfl)) rfl
theorem tw_2_220 : Cond.code yX3_refuseNo cX3_refuseNo 1 (some .int) ∈ TB := tb_mem (tb_t2 (List.mem_of_getElem? (i := 220) rfl)) rfl
theorem tw_2_221 : Cond.methodLink RX3 137 yX0_goBack ∈ TB := tb_mem (tb_t2 (List.mem_of_getElem? (i := 221) rfl)) rfl
theorem tw_2_222 : Cond.instanceMethod yX0_goBack ∈ TB := tb_mem (tb_t2 (List.mem_of_getElem? (i := 222) rfl)) rfl
theorem tw_2_223 : Cond.selects RX0 yX0_goBack yX0_goBack ∈ TB := tb_mem (tb_t2 (List.mem_of_getElem? (i := 223) rfl)) rfl
theorem tw_2_224 : Cond.code yX0_goBack cX0_goBack 2 none ∈ TB := tb_mem (tb_t2 (List.mem_of_getElem? (i := 224) rfl)) rfl
theorem tw_2_225 : Cond.methodLink RL 52 yX3_of ∈ TB := tb_mem (tb_t2 (List.mem_of_getElem? (i := 225) rfl)) rfl
theorem tw_2_226 : Cond.instanceMethod yX3_of ∈ TB := tb_mem (tb_t2 (List.mem_of_getElem? (i := 226) rfl)) rfl
theorem tw_2_227 : Cond.selects RX3 yX3_of yX3_of ∈ TB := tb_mem (tb_t2 (List.mem_of_getElem? (i := 227) rfl)) rfl
theorem tw_2_228 : Cond.code yX3_of cX3_of 3 (some .int) ∈ TB := tb_mem (tb_t2 (List.mem_of_getElem? (i := 228) rfl)) rfl
theorem tw_2_229 : Cond.methodLink RX3 143 yX0_hasHolder ∈ TB := tb_mem (tb_t2 (List.mem_of_getElem? (i := 229) rfl)) rfl
theorem tw_2_230 : Cond.instanceMethod yX0_hasHolder ∈ TB := tb_mem (tb_t2 (List.mem_of_getElem? (i := 230) rfl)) rfl
theorem tw_2_231 : Cond.selects RX0 yX0_hasHolder yX0_hasHolder ∈ TB := tb_mem (tb_t2 (List.mem_of_getElem? (i := 231) rfl)) rfl
theorem tw_2_232 : Cond.code yX0_hasHolder cX0_hasHolder 2 (some .boolean) ∈ TB := tb_mem (tb_t2 (List.mem_of_getElem? (i := 232) rfl)) rfl
theorem tw_2_233 : Cond.methodLink RX3 146 yX0_kindOf ∈ TB := tb_mem (tb_t2 (List.mem_of_getElem? (i := 233) rfl)) rfl
theorem tw_2_234 : Cond.methodLink RX3 149 yX0_extraOf ∈ TB := tb_mem (tb_t2 (List.mem_of_getElem? (i := 234) rfl)) rfl
theorem tw_2_235 : Cond.methodLink RX3 152 yX0_shareOf ∈ TB := tb_mem (tb_t2 (List.mem_of_getElem? (i := 235) rfl)) rfl
theorem tw_2_236 : Cond.methodLink RL 56 yX3_tells ∈ TB := tb_mem (tb_t2 (List.mem_of_getElem? (i := 236) rfl)) rfl
theorem tw_2_237 : Cond.instanceMethod yX3_tells ∈ TB := tb_mem (tb_t2 (List.mem_of_getElem? (i := 237) rfl)) rfl
theorem tw_2_238 : Cond.selects RX3 yX3_tells yX3_tells ∈ TB := tb_mem (tb_t2 (List.mem_of_getElem? (i := 238) rfl)) rfl
theorem tw_2_239 : Cond.code yX3_tells cX3_tells 4 (some .int) ∈ TB := tb_mem (tb_t2 (List.mem_of_getElem? (i := 239) rfl)) rfl
theorem tw_3_0 : Cond.methodLink RX3 155 yX3_isDay ∈ TB := tb_mem (tb_t3 (List.mem_of_getElem? (i := 0) rfl)) rfl
theorem tw_3_1 : Cond.static yX3_isDay ∈ TB := tb_mem (tb_t3 (List.mem_of_getElem? (i := 1) rfl)) rfl
theorem tw_3_2 : Cond.code yX3_isDay cX3_isDay 1 (some .boolean) ∈ TB := tb_mem (tb_t3 (List.mem_of_getElem? (i := 2) rfl)) rfl
theorem tw_3_3 : Cond.methodLink RX3 158 yX0_wordOf ∈ TB := tb_mem (tb_t3 (List.mem_of_getElem? (i := 3) rfl)) rfl
theorem tw_3_4 : Cond.methodLink RL 61 yX3_finds ∈ TB := tb_mem (tb_t3 (List.mem_of_getElem? (i := 4) rfl)) rfl
theorem tw_3_5 : Cond.instanceMethod yX3_finds ∈ TB := tb_mem (tb_t3 (List.mem_of_getElem? (i := 5) rfl)) rfl
theorem tw_3_6 : Cond.selects RX3 yX3_finds yX3_finds ∈ TB := tb_mem (tb_t3 (List.mem_of_getElem? (i := 6) rfl)) rfl
theorem tw_3_7 : Cond.code yX3_finds cX3_finds 2 (some .int) ∈ TB := tb_mem (tb_t3 (List.mem_of_getElem? (i := 7) rfl)) rfl
theorem tw_3_8 : Cond.methodLink RX3 162 yX2_empty ∈ TB := tb_mem (tb_t3 (List.mem_of_getElem? (i := 8) rfl)) rfl
theorem tw_3_9 : Cond.methodLink RX3 165 yX0_putShares ∈ TB := tb_mem (tb_t3 (List.mem_of_getElem? (i := 9) rfl)) rfl
theorem tw_3_10 : Cond.instanceMethod yX0_putShares ∈ TB := tb_mem (tb_t3 (List.mem_of_getElem? (i := 10) rfl)) rfl
theorem tw_3_11 : Cond.selects RX0 yX0_putShares yX0_putShares ∈ TB := tb_mem (tb_t3 (List.mem_of_getElem? (i := 11) rfl)) rfl
theorem tw_3_12 : Cond.code yX0_putShares cX0_putShares 4 none ∈ TB := tb_mem (tb_t3 (List.mem_of_getElem? (i := 12) rfl)) rfl
theorem tw_3_13 : Cond.methodLink RX3 172 yX2_foundBy ∈ TB := tb_mem (tb_t3 (List.mem_of_getElem? (i := 13) rfl)) rfl
theorem tw_3_14 : Cond.methodLink RL 65 yX3_knows ∈ TB := tb_mem (tb_t3 (List.mem_of_getElem? (i := 14) rfl)) rfl
theorem tw_3_15 : Cond.instanceMethod yX3_knows ∈ TB := tb_mem (tb_t3 (List.mem_of_getElem? (i := 15) rfl)) rfl
theorem tw_3_16 : Cond.selects RX3 yX3_knows yX3_knows ∈ TB := tb_mem (tb_t3 (List.mem_of_getElem? (i := 16) rfl)) rfl
theorem tw_3_17 : Cond.code yX3_knows cX3_knows 2 (some .int) ∈ TB := tb_mem (tb_t3 (List.mem_of_getElem? (i := 17) rfl)) rfl
theorem tw_3_18 : Cond.methodLink RX3 175 yJ6_bitCount_0f7a4 ∈ TB := tb_mem (tb_t3 (List.mem_of_getElem? (i := 18) rfl)) rfl
theorem tw_3_19 : Cond.methodLink RL 69 yX3_comes ∈ TB := tb_mem (tb_t3 (List.mem_of_getElem? (i := 19) rfl)) rfl
theorem tw_3_20 : Cond.instanceMethod yX3_comes ∈ TB := tb_mem (tb_t3 (List.mem_of_getElem? (i := 20) rfl)) rfl
theorem tw_3_21 : Cond.selects RX3 yX3_comes yX3_comes ∈ TB := tb_mem (tb_t3 (List.mem_of_getElem? (i := 21) rfl)) rfl
theorem tw_3_22 : Cond.code yX3_comes cX3_comes 3 (some .int) ∈ TB := tb_mem (tb_t3 (List.mem_of_getElem? (i := 22) rfl)) rfl
theorem tw_3_23 : Cond.methodLink RX3 180 yX0_outcome ∈ TB := tb_mem (tb_t3 (List.mem_of_getElem? (i := 23) rfl)) rfl
theorem tw_3_24 : Cond.methodLink RL 73 yX3_tell ∈ TB := tb_mem (tb_t3 (List.mem_of_getElem? (i := 24) rfl)) rfl
theorem tw_3_25 : Cond.instanceMethod yX3_tell ∈ TB := tb_mem (tb_t3 (List.mem_of_getElem? (i := 25) rfl)) rfl
theorem tw_3_26 : Cond.selects RX3 yX3_tell yX3_tell ∈ TB := tb_mem (tb_t3 (List.mem_of_getElem? (i := 26) rfl)) rfl
theorem tw_3_27 : Cond.code yX3_tell cX3_tell 4 (some .int) ∈ TB := tb_mem (tb_t3 (List.mem_of_getElem? (i := 27) rfl)) rfl
theorem tw_3_28 : Cond.methodLink RX3 187 yX2_numberAt ∈ TB := tb_mem (tb_t3 (List.mem_of_getElem? (i := 28) rfl)) rfl
theorem tw_3_29 : Cond.methodLink RX3 190 yX2_put ∈ TB := tb_mem (tb_t3 (List.mem_of_getElem? (i := 29) rfl)) rfl
theorem tw_3_30 : Cond.methodLink RL 77 yX3_forget ∈ TB := tb_mem (tb_t3 (List.mem_of_getElem? (i := 30) rfl)) rfl
theorem tw_3_31 : Cond.instanceMethod yX3_forget ∈ TB := tb_mem (tb_t3 (List.mem_of_getElem? (i := 31) rfl)) rfl
theorem tw_3_32 : Cond.selects RX3 yX3_forget yX3_forget ∈ TB := tb_mem (tb_t3 (List.mem_of_getElem? (i := 32) rfl)) rfl
theorem tw_3_33 : Cond.code yX3_forget cX3_forget 2 (some .int) ∈ TB := tb_mem (tb_t3 (List.mem_of_getElem? (i := 33) rfl)) rfl
theorem tw_3_34 : Cond.methodLink RX3 193 yX2_size ∈ TB := tb_mem (tb_t3 (List.mem_of_getElem? (i := 34) rfl)) rfl
theorem tw_3_35 : Cond.instanceMethod yX2_size ∈ TB := tb_mem (tb_t3 (List.mem_of_getElem? (i := 35) rfl)) rfl
theorem tw_3_36 : Cond.selects RX2 yX2_size yX2_size ∈ TB := tb_mem (tb_t3 (List.mem_of_getElem? (i := 36) rfl)) rfl
theorem tw_3_37 : Cond.code yX2_size cX2_size 1 (some .int) ∈ TB := tb_mem (tb_t3 (List.mem_of_getElem? (i := 37) rfl)) rfl
theorem tw_3_38 : Cond.methodLink RX2 21 yX2_bits ∈ TB := tb_mem (tb_t3 (List.mem_of_getElem? (i := 38) rfl)) rfl
theorem tw_3_40 : Cond.instanceMethod yX2_bits ∈ TB := tb_mem (tb_t3 (List.mem_of_getElem? (i := 40) rfl)) rfl
theorem tw_3_41 : Cond.code yX2_bits cX2_bits 3 (some .int) ∈ TB := tb_mem (tb_t3 (List.mem_of_getElem? (i := 41) rfl)) rfl
theorem tw_3_42 : Cond.methodLink RX2 25 yJ6_bitCount_0f7a4 ∈ TB := tb_mem (tb_t3 (List.mem_of_getElem? (i := 42) rfl)) rfl
theorem tw_3_43 : Cond.methodLink RL 81 yX3_agree ∈ TB := tb_mem (tb_t3 (List.mem_of_getElem? (i := 43) rfl)) rfl
theorem tw_3_44 : Cond.instanceMethod yX3_agree ∈ TB := tb_mem (tb_t3 (List.mem_of_getElem? (i := 44) rfl)) rfl
theorem tw_3_45 : Cond.selects RX3 yX3_agree yX3_agree ∈ TB := tb_mem (tb_t3 (List.mem_of_getElem? (i := 45) rfl)) rfl
theorem tw_3_46 : Cond.code yX3_agree cX3_agree 1 (some .int) ∈ TB := tb_mem (tb_t3 (List.mem_of_getElem? (i := 46) rfl)) rfl
theorem tw_3_47 : Cond.methodLink RX3 196 yX2_agreesBy ∈ TB := tb_mem (tb_t3 (List.mem_of_getElem? (i := 47) rfl)) rfl
theorem tw_3_48 : Cond.instanceMethod yX2_agreesBy ∈ TB := tb_mem (tb_t3 (List.mem_of_getElem? (i := 48) rfl)) rfl
theorem tw_3_49 : Cond.selects RX2 yX2_agreesBy yX2_agreesBy ∈ TB := tb_mem (tb_t3 (List.mem_of_getElem? (i := 49) rfl)) rfl
theorem tw_3_50 : Cond.code yX2_agreesBy cX2_agreesBy 4 (some .boolean) ∈ TB := tb_mem (tb_t3 (List.mem_of_getElem? (i := 50) rfl)) rfl
theorem tw_3_51 : Cond.methodLink RL 85 yX3_liars ∈ TB := tb_mem (tb_t3 (List.mem_of_getElem? (i := 51) rfl)) rfl
theorem tw_3_52 : Cond.instanceMethod yX3_liars ∈ TB := tb_mem (tb_t3 (List.mem_of_getElem? (i := 52) rfl)) rfl
theorem tw_3_53 : Cond.selects RX3 yX3_liars yX3_liars ∈ TB := tb_mem (tb_t3 (List.mem_of_getElem? (i := 53) rfl)) rfl
theorem tw_3_54 : Cond.code yX3_liars cX3_liars 1 (some .int) ∈ TB := tb_mem (tb_t3 (List.mem_of_getElem? (i := 54) rfl)) rfl
theorem tw_3_55 : Cond.methodLink RX3 199 yX2_liarBits ∈ TB := tb_mem (tb_t3 (List.mem_of_getElem? (i := 55) rfl)) rfl
theorem tw_3_56 : Cond.instanceMethod yX2_liarBits ∈ TB := tb_mem (tb_t3 (List.mem_of_getElem? (i := 56) rfl)) rfl
theorem tw_3_57 : Cond.selects RX2 yX2_liarBits yX2_liarBits ∈ TB := tb_mem (tb_t3 (List.mem_of_getElem? (i := 57) rfl)) rfl
theorem tw_3_58 : Cond.code yX2_liarBits cX2_liarBits 7 (some .int) ∈ TB := tb_mem (tb_t3 (List.mem_of_getElem? (i := 58) rfl)) rfl
theorem tw_3_59 : Cond.methodLink RX2 45 yX2_copyWithout ∈ TB := tb_mem (tb_t3 (List.mem_of_getElem? (i := 59) rfl)) rfl
theorem tw_3_60 : Cond.methodLink RX2 49 yX2_agreesBy ∈ TB := tb_mem (tb_t3 (List.mem_of_getElem? (i := 60) rfl)) rfl
theorem tw_3_61 : Cond.methodLink RL 89 yX3_guess ∈ TB := tb_mem (tb_t3 (List.mem_of_getElem? (i := 61) rfl)) rfl
theorem tw_3_62 : Cond.instanceMethod yX3_guess ∈ TB := tb_mem (tb_t3 (List.mem_of_getElem? (i := 62) rfl)) rfl
theorem tw_3_63 : Cond.selects RX3 yX3_guess yX3_guess ∈ TB := tb_mem (tb_t3 (List.mem_of_getElem? (i := 63) rfl)) rfl
theorem tw_3_64 : Cond.code yX3_guess cX3_guess 2 (some .int) ∈ TB := tb_mem (tb_t3 (List.mem_of_getElem? (i := 64) rfl)) rfl
theorem tw_3_65 : Cond.methodLink RX3 202 yX2_copyWithout ∈ TB := tb_mem (tb_t3 (List.mem_of_getElem? (i := 65) rfl)) rfl
theorem tw_3_66 : Cond.methodLink RL 93 yX3_mixed ∈ TB := tb_mem (tb_t3 (List.mem_of_getElem? (i := 66) rfl)) rfl
theorem tw_3_67 : Cond.instanceMethod yX3_mixed ∈ TB := tb_mem (tb_t3 (List.mem_of_getElem? (i := 67) rfl)) rfl
theorem tw_3_68 : Cond.selects RX3 yX3_mixed yX3_mixed ∈ TB := tb_mem (tb_t3 (List.mem_of_getElem? (i := 68) rfl)) rfl
theorem tw_3_69 : Cond.code yX3_mixed cX3_mixed 4 (some .int) ∈ TB := tb_mem (tb_t3 (List.mem_of_getElem? (i := 69) rfl)) rfl
theorem tw_3_70 : Cond.methodLink RX3 206 yX3_isImage ∈ TB := tb_mem (tb_t3 (List.mem_of_getElem? (i := 70) rfl)) rfl
theorem tw_3_71 : Cond.static yX3_isImage ∈ TB := tb_mem (tb_t3 (List.mem_of_getElem? (i := 71) rfl)) rfl
theorem tw_3_72 : Cond.code yX3_isImage cX3_isImage 1 (some .boolean) ∈ TB := tb_mem (tb_t3 (List.mem_of_getElem? (i := 72) rfl)) rfl
theorem tw_3_73 : Cond.methodLink RX3 209 yX3_isKept ∈ TB := tb_mem (tb_t3 (List.mem_of_getElem? (i := 73) rfl)) rfl
theorem tw_3_75 : Cond.instanceMethod yX3_isKept ∈ TB := tb_mem (tb_t3 (List.mem_of_getElem? (i := 75) rfl)) rfl
theorem tw_3_76 : Cond.code yX3_isKept cX3_isKept 2 (some .boolean) ∈ TB := tb_mem (tb_t3 (List.mem_of_getElem? (i := 76) rfl)) rfl
theorem tw_3_77 : Cond.methodLink RX3 212 yX3_imageAt ∈ TB := tb_mem (tb_t3 (List.mem_of_getElem? (i := 77) rfl)) rfl
theorem tw_3_79 : Cond.instanceMethod yX3_imageAt ∈ TB := tb_mem (tb_t3 (List.mem_of_getElem? (i := 79) rfl)) rfl
theorem tw_3_80 : Cond.code yX3_imageAt cX3_imageAt 2 (some (.object "SafeShares$Safe")) ∈ TB := tb_mem (tb_t3 (List.mem_of_getElem? (i := 80) rfl)) rfl
theorem tw_3_81 : Cond.methodLink RL 97 yX3_odds ∈ TB := tb_mem (tb_t3 (List.mem_of_getElem? (i := 81) rfl)) rfl
theorem tw_3_82 : Cond.instanceMethod yX3_odds ∈ TB := tb_mem (tb_t3 (List.mem_of_getElem? (i := 82) rfl)) rfl
theorem tw_3_83 : Cond.selects RX3 yX3_odds yX3_odds ∈ TB := tb_mem (tb_t3 (List.mem_of_getElem? (i := 83) rfl)) rfl
theorem tw_3_84 : Cond.code yX3_odds cX3_odds 8 (some .int) ∈ TB := tb_mem (tb_t3 (List.mem_of_getElem? (i := 84) rfl)) rfl
theorem tw_3_85 : Cond.methodLink RX3 216 yX3_partsWithAtLeast ∈ TB := tb_mem (tb_t3 (List.mem_of_getElem? (i := 85) rfl)) rfl
theorem tw_3_86 : Cond.static yX3_partsWithAtLeast ∈ TB := tb_mem (tb_t3 (List.mem_of_getElem? (i := 86) rfl)) rfl
theorem tw_3_87 : Cond.code yX3_partsWithAtLeast cX3_partsWithAtLeast 7 (some .long) ∈ TB := tb_mem (tb_t3 (List.mem_of_getElem? (i := 87) rfl)) rfl
theorem tw_3_88 : Cond.methodLink RX3 220 yX3_power ∈ TB := tb_mem (tb_t3 (List.mem_of_getElem? (i := 88) rfl)) rfl
theorem tw_3_89 : Cond.static yX3_power ∈ TB := tb_mem (tb_t3 (List.mem_of_getElem? (i := 89) rfl)) rfl
theorem tw_3_90 : Cond.code yX3_power cX3_power 5 (some .long) ∈ TB := tb_mem (tb_t3 (List.mem_of_getElem? (i := 90) rfl)) rfl
theorem tw_3_91 : Cond.methodLink RX3 224 yX3_commonDivisor ∈ TB := tb_mem (tb_t3 (List.mem_of_getElem? (i := 91) rfl)) rfl
theorem tw_3_92 : Cond.static yX3_commonDivisor ∈ TB := tb_mem (tb_t3 (List.mem_of_getElem? (i := 92) rfl)) rfl
theorem tw_3_93 : Cond.code yX3_commonDivisor cX3_commonDivisor 11 (some .long) ∈ TB := tb_mem (tb_t3 (List.mem_of_getElem? (i := 93) rfl)) rfl
theorem tw_3_94 : Cond.methodLink RL 101 yX3_best ∈ TB := tb_mem (tb_t3 (List.mem_of_getElem? (i := 94) rfl)) rfl
theorem tw_3_95 : Cond.instanceMethod yX3_best ∈ TB := tb_mem (tb_t3 (List.mem_of_getElem? (i := 95) rfl)) rfl
theorem tw_3_96 : Cond.selects RX3 yX3_best yX3_best ∈ TB := tb_mem (tb_t3 (List.mem_of_getElem? (i := 96) rfl)) rfl
theorem tw_3_97 : Cond.code yX3_best cX3_best 9 (some .int) ∈ TB := tb_mem (tb_t3 (List.mem_of_getElem? (i := 97) rfl)) rfl
theorem tw_3_98 : Cond.methodLink RL 105 yX3_must ∈ TB := tb_mem (tb_t3 (List.mem_of_getElem? (i := 98) rfl)) rfl
theorem tw_3_99 : Cond.instanceMethod yX3_must ∈ TB := tb_mem (tb_t3 (List.mem_of_getElem? (i := 99) rfl)) rfl
theorem tw_3_100 : Cond.selects RX3 yX3_must yX3_must ∈ TB := tb_mem (tb_t3 (List.mem_of_getElem? (i := 100) rfl)) rfl
theorem tw_3_101 : Cond.code yX3_must cX3_must 5 (some .int) ∈ TB := tb_mem (tb_t3 (List.mem_of_getElem? (i := 101) rfl)) rfl
theorem tw_3_102 : Cond.methodLink RX3 228 yX0_everyone ∈ TB := tb_mem (tb_t3 (List.mem_of_getElem? (i := 102) rfl)) rfl
theorem tw_3_103 : Cond.methodLink RL 109 yX3_cars ∈ TB := tb_mem (tb_t3 (List.mem_of_getElem? (i := 103) rfl)) rfl
theorem tw_3_104 : Cond.instanceMethod yX3_cars ∈ TB := tb_mem (tb_t3 (List.mem_of_getElem? (i := 104) rfl)) rfl
theorem tw_3_105 : Cond.selects RX3 yX3_cars yX3_cars ∈ TB := tb_mem (tb_t3 (List.mem_of_getElem? (i := 105) rfl)) rfl
theorem tw_3_106 : Cond.code yX3_cars cX3_cars 5 (some .int) ∈ TB := tb_mem (tb_t3 (List.mem_of_getElem? (i := 106) rfl)) rfl
theorem tw_3_107 : Cond.methodLink RX3 231 yX3_isSafeParting ∈ TB := tb_mem (tb_t3 (List.mem_of_getElem? (i := 107) rfl)) rfl
theorem tw_3_109 : Cond.instanceMethod yX3_isSafeParting ∈ TB := tb_mem (tb_t3 (List.mem_of_getElem? (i := 109) rfl)) rfl
theorem tw_3_110 : Cond.code yX3_isSafeParting cX3_isSafeParting 3 (some .boolean) ∈ TB := tb_mem (tb_t3 (List.mem_of_getElem? (i := 110) rfl)) rfl
theorem tw_3_111 : Cond.methodLink RL 113 yX3_envelope ∈ TB := tb_mem (tb_t3 (List.mem_of_getElem? (i := 111) rfl)) rfl
theorem tw_3_112 : Cond.instanceMethod yX3_envelope ∈ TB := tb_mem (tb_t3 (List.mem_of_getElem? (i := 112) rfl)) rfl
theorem tw_3_113 : Cond.selects RX3 yX3_envelope yX3_envelope ∈ TB := tb_mem (tb_t3 (List.mem_of_getElem? (i := 113) rfl)) rfl
theorem tw_3_114 : Cond.code yX3_envelope cX3_envelope 7 (some .int) ∈ TB := tb_mem (tb_t3 (List.mem_of_getElem? (i := 114) rfl)) rfl
theorem tw_3_115 : Cond.methodLink RX3 234 yX3_envelopeDays ∈ TB := tb_mem (tb_t3 (List.mem_of_getElem? (i := 115) rfl)) rfl
theorem tw_3_117 : Cond.instanceMethod yX3_envelopeDays ∈ TB := tb_mem (tb_t3 (List.mem_of_getElem? (i := 117) rfl)) rfl
theorem tw_3_118 : Cond.code yX3_envelopeDays cX3_envelopeDays 5 (some .int) ∈ TB := tb_mem (tb_t3 (List.mem_of_getElem? (i := 118) rfl)) rfl
theorem tw_3_119 : Cond.methodLink RX3 262 yX0_collect ∈ TB := tb_mem (tb_t3 (List.mem_of_getElem? (i := 119) rfl)) rfl
theorem tw_3_120 : Cond.methodLink RL 117 yX3_days ∈ TB := tb_mem (tb_t3 (List.mem_of_getElem? (i := 120) rfl)) rfl
theorem tw_3_121 : Cond.instanceMethod yX3_days ∈ TB := tb_mem (tb_t3 (List.mem_of_getElem? (i := 121) rfl)) rfl
theorem tw_3_122 : Cond.selects RX3 yX3_days yX3_days ∈ TB := tb_mem (tb_t3 (List.mem_of_getElem? (i := 122) rfl)) rfl
theorem tw_3_123 : Cond.code yX3_days cX3_days 10 (some .int) ∈ TB := tb_mem (tb_t3 (List.mem_of_getElem? (i := 123) rfl)) rfl
theorem tw_3_124 : Cond.methodLink RX3 238 yX3_nextX ∈ TB := tb_mem (tb_t3 (List.mem_of_getElem? (i := 124) rfl)) rfl
theorem tw_3_125 : Cond.methodLink RX3 242 yX3_drawn ∈ TB := tb_mem (tb_t3 (List.mem_of_getElem? (i := 125) rfl)) rfl
theorem tw_3_126 : Cond.methodLink RL 121 yX3_part ∈ TB := tb_mem (tb_t3 (List.mem_of_getElem? (i := 126) rfl)) rfl
theorem tw_3_127 : Cond.instanceMethod yX3_part ∈ TB := tb_mem (tb_t3 (List.mem_of_getElem? (i := 127) rfl)) rfl
theorem tw_3_128 : Cond.selects RX3 yX3_part yX3_part ∈ TB := tb_mem (tb_t3 (List.mem_of_getElem? (i := 128) rfl)) rfl
theorem tw_3_129 : Cond.code yX3_part cX3_part 2 (some .long) ∈ TB := tb_mem (tb_t3 (List.mem_of_getElem? (i := 129) rfl)) rfl
theorem tw_3_130 : Cond.methodLink RL 126 yX3_image ∈ TB := tb_mem (tb_t3 (List.mem_of_getElem? (i := 130) rfl)) rfl
theorem tw_3_131 : Cond.instanceMethod yX3_image ∈ TB := tb_mem (tb_t3 (List.mem_of_getElem? (i := 131) rfl)) rfl
theorem tw_3_132 : Cond.selects RX3 yX3_image yX3_image ∈ TB := tb_mem (tb_t3 (List.mem_of_getElem? (i := 132) rfl)) rfl
theorem tw_3_133 : Cond.code yX3_image cX3_image 2 (some .int) ∈ TB := tb_mem (tb_t3 (List.mem_of_getElem? (i := 133) rfl)) rfl
theorem tw_3_134 : Cond.methodLink RL 130 yX3_from ∈ TB := tb_mem (tb_t3 (List.mem_of_getElem? (i := 134) rfl)) rfl
theorem tw_3_135 : Cond.instanceMethod yX3_from ∈ TB := tb_mem (tb_t3 (List.mem_of_getElem? (i := 135) rfl)) rfl
theorem tw_3_136 : Cond.selects RX3 yX3_from yX3_from ∈ TB := tb_mem (tb_t3 (List.mem_of_getElem? (i := 136) rfl)) rfl
theorem tw_3_137 : Cond.code yX3_from cX3_from 2 (some .int) ∈ TB := tb_mem (tb_t3 (List.mem_of_getElem? (i := 137) rfl)) rfl
theorem tw_3_138 : Cond.methodLink RL 134 yX3_status ∈ TB := tb_mem (tb_t3 (List.mem_of_getElem? (i := 138) rfl)) rfl
theorem tw_3_139 : Cond.instanceMethod yX3_status ∈ TB := tb_mem (tb_t3 (List.mem_of_getElem? (i := 139) rfl)) rfl
theorem tw_3_140 : Cond.selects RX3 yX3_status yX3_status ∈ TB := tb_mem (tb_t3 (List.mem_of_getElem? (i := 140) rfl)) rfl
theorem tw_3_141 : Cond.code yX3_status cX3_status 2 (some .int) ∈ TB := tb_mem (tb_t3 (List.mem_of_getElem? (i := 141) rfl)) rfl
theorem tw_3_142 : Cond.methodLink RL 138 yX3_count ∈ TB := tb_mem (tb_t3 (List.mem_of_getElem? (i := 142) rfl)) rfl
theorem tw_3_143 : Cond.instanceMethod yX3_count ∈ TB := tb_mem (tb_t3 (List.mem_of_getElem? (i := 143) rfl)) rfl
theorem tw_3_144 : Cond.selects RX3 yX3_count yX3_count ∈ TB := tb_mem (tb_t3 (List.mem_of_getElem? (i := 144) rfl)) rfl
theorem tw_3_145 : Cond.code yX3_count cX3_count 2 (some .int) ∈ TB := tb_mem (tb_t3 (List.mem_of_getElem? (i := 145) rfl)) rfl
theorem tw_3_146 : Cond.methodLink RX3 246 yX3_amount ∈ TB := tb_mem (tb_t3 (List.mem_of_getElem? (i := 146) rfl)) rfl
theorem tw_3_148 : Cond.instanceMethod yX3_amount ∈ TB := tb_mem (tb_t3 (List.mem_of_getElem? (i := 148) rfl)) rfl
theorem tw_3_149 : Cond.code yX3_amount cX3_amount 2 (some .int) ∈ TB := tb_mem (tb_t3 (List.mem_of_getElem? (i := 149) rfl)) rfl
theorem tw_3_150 : Cond.methodLink RL 142 yX3_digest ∈ TB := tb_mem (tb_t3 (List.mem_of_getElem? (i := 150) rfl)) rfl
theorem tw_3_151 : Cond.instanceMethod yX3_digest ∈ TB := tb_mem (tb_t3 (List.mem_of_getElem? (i := 151) rfl)) rfl
theorem tw_3_152 : Cond.selects RX3 yX3_digest yX3_digest ∈ TB := tb_mem (tb_t3 (List.mem_of_getElem? (i := 152) rfl)) rfl
theorem tw_3_153 : Cond.code yX3_digest cX3_digest 4 (some .long) ∈ TB := tb_mem (tb_t3 (List.mem_of_getElem? (i := 153) rfl)) rfl
theorem tw_3_154 : Cond.constantLong RX3 249 (1063) ∈ TB := tb_mem (tb_t3 (List.mem_of_getElem? (i := 154) rfl)) rfl
theorem tw_3_155 : Cond.constantLong RX3 251 (31) ∈ TB := tb_mem (tb_t3 (List.mem_of_getElem? (i := 155) rfl)) rfl
theorem tw_3_156 : Cond.methodLink RX3 253 yX0_mixInto ∈ TB := tb_mem (tb_t3 (List.mem_of_getElem? (i := 156) rfl)) rfl
theorem tw_3_157 : Cond.instanceMethod yX0_mixInto ∈ TB := tb_mem (tb_t3 (List.mem_of_getElem? (i := 157) rfl)) rfl
theorem tw_3_158 : Cond.selects RX0 yX0_mixInto yX0_mixInto ∈ TB := tb_mem (tb_t3 (List.mem_of_getElem? (i := 158) rfl)) rfl
theorem tw_3_159 : Cond.code yX0_mixInto cX0_mixInto 6 (some .long) ∈ TB := tb_mem (tb_t3 (List.mem_of_getElem? (i := 159) rfl)) rfl
theorem tw_3_160 : Cond.constantLong RX0 138 (31) ∈ TB := tb_mem (tb_t3 (List.mem_of_getElem? (i := 160) rfl)) rfl
theorem tw_3_161 : Cond.methodLink RX0 140 yX2_numberAt ∈ TB := tb_mem (tb_t3 (List.mem_of_getElem? (i := 161) rfl)) rfl
theorem tw_3_162 : Cond.classLink RL 10 RX4 ∈ TB := tb_mem (tb_t3 (List.mem_of_getElem? (i := 162) rfl)) rfl
theorem tw_3_164 : Cond.methodLink RL 12 yX4_init ∈ TB := tb_mem (tb_t3 (List.mem_of_getElem? (i := 164) rfl)) rfl
theorem tw_3_165 : Cond.instanceMethod yX4_init ∈ TB := tb_mem (tb_t3 (List.mem_of_getElem? (i := 165) rfl)) rfl
theorem tw_3_166 : Cond.code yX4_init cX4_init 1 none ∈ TB := tb_mem (tb_t3 (List.mem_of_getElem? (i := 166) rfl)) rfl
theorem tw_3_167 : Cond.methodLink RX4 1 objectInit ∈ TB := tb_mem (tb_t3 (List.mem_of_getElem? (i := 167) rfl)) rfl
theorem tw_3_168 : Cond.methodLink RX4 48 yX4_anew ∈ TB := tb_mem (tb_t3 (List.mem_of_getElem? (i := 168) rfl)) rfl
theorem tw_3_170 : Cond.instanceMethod yX4_anew ∈ TB := tb_mem (tb_t3 (List.mem_of_getElem? (i := 170) rfl)) rfl
theorem tw_3_171 : Cond.code yX4_anew cX4_anew 4 none ∈ TB := tb_mem (tb_t3 (List.mem_of_getElem? (i := 171) rfl)) rfl
theorem tw_3_172 : Cond.fieldLink RX4 7 "SafeSharesModel" "st" "[I" ∈ TB := tb_mem (tb_t3 (List.mem_of_getElem? (i := 172) rfl)) rfl
theorem tw_3_173 : Cond.fieldLink RX4 223 "SafeSharesModel" "above" "J" ∈ TB := tb_mem (tb_t3 (List.mem_of_getElem? (i := 173) rfl)) rfl
theorem tw_3_174 : Cond.fieldLink RX4 13 "SafeSharesModel" "below" "J" ∈ TB := tb_mem (tb_t3 (List.mem_of_getElem? (i := 174) rfl)) rfl
theorem tw_3_175 : Cond.fieldLink RX4 17 "SafeSharesModel" "refused" "[I" ∈ TB := tb_mem (tb_t3 (List.mem_of_getElem? (i := 175) rfl)) rfl
theorem tw_3_176 : Cond.fieldLink RX4 20 "SafeSharesModel" "text" "[I" ∈ TB := tb_mem (tb_t3 (List.mem_of_getElem? (i := 176) rfl)) rfl
theorem tw_3_177 : Cond.fieldLink RX4 80 "SafeSharesModel" "bytes" "I" ∈ TB := tb_mem (tb_t3 (List.mem_of_getElem? (i := 177) rfl)) rfl
theorem tw_3_178 : Cond.fieldLink RX4 83 "SafeSharesModel" "place" "I" ∈ TB := tb_mem (tb_t3 (List.mem_of_getElem? (i := 178) rfl)) rfl
theorem tw_3_179 : Cond.fieldLink RX4 96 "SafeSharesModel" "token" "I" ∈ TB := tb_mem (tb_t3 (List.mem_of_getElem? (i := 179) rfl)) rfl
theorem tw_3_180 : Cond.fieldLink RX4 93 "SafeSharesModel" "value" "I" ∈ TB := tb_mem (tb_t3 (List.mem_of_getElem? (i := 180) rfl)) rfl
theorem tw_3_181 : Cond.fieldLink RX4 90 "SafeSharesModel" "begins" "I" ∈ TB := tb_mem (tb_t3 (List.mem_of_getElem? (i := 181) rfl)) rfl
theorem tw_3_182 : Cond.fieldLink RX4 23 "SafeSharesModel" "row" "[I" ∈ TB := tb_mem (tb_t3 (List.mem_of_getElem? (i := 182) rfl)) rfl
theorem tw_3_183 : Cond.fieldLink RX4 118 "SafeSharesModel" "toldHolders" "I" ∈ TB := tb_mem (tb_t3 (List.mem_of_getElem? (i := 183) rfl)) rfl
theorem tw_3_184 : Cond.fieldLink RX4 26 "SafeSharesModel" "points" "[I" ∈ TB := tb_mem (tb_t3 (List.mem_of_getElem? (i := 184) rfl)) rfl
theorem tw_3_185 : Cond.fieldLink RX4 29 "SafeSharesModel" "used" "[I" ∈ TB := tb_mem (tb_t3 (List.mem_of_getElem? (i := 185) rfl)) rfl
theorem tw_3_186 : Cond.fieldLink RX4 32 "SafeSharesModel" "ahead" "[I" ∈ TB := tb_mem (tb_t3 (List.mem_of_getElem? (i := 186) rfl)) rfl
theorem tw_3_187 : Cond.fieldLink RX4 56 "SafeSharesModel" "undoMany" "I" ∈ TB := tb_mem (tb_t3 (List.mem_of_getElem? (i := 187) rfl)) rfl
theorem tw_3_188 : Cond.fieldLink RX4 173 "SafeSharesModel" "drawn" "J" ∈ TB := tb_mem (tb_t3 (List.mem_of_getElem? (i := 188) rfl)) rfl
theorem tw_3_189 : Cond.fieldLink RX4 35 "SafeSharesModel" "isKept" "[Z" ∈ TB := tb_mem (tb_t3 (List.mem_of_getElem? (i := 189) rfl)) rfl
theorem tw_3_190 : Cond.fieldLink RX4 39 "SafeSharesModel" "kept" "[I" ∈ TB := tb_mem (tb_t3 (List.mem_of_getElem? (i := 190) rfl)) rfl
theorem tw_3_191 : Cond.fieldLink RX4 42 "SafeSharesModel" "keptAhead" "[I" ∈ TB := tb_mem (tb_t3 (List.mem_of_getElem? (i := 191) rfl)) rfl
theorem tw_3_192 : Cond.fieldLink RX4 45 "SafeSharesModel" "keptMany" "[I" ∈ TB := tb_mem (tb_t3 (List.mem_of_getElem? (i := 192) rfl)) rfl
theorem tw_3_237 : Cond.methodLink RL 17 yX4_safe ∈ TB := tb_mem (tb_t3 (List.mem_of_getElem? (i := 237) rfl)) rfl
theorem tw_3_238 : Cond.instanceMethod yX4_safe ∈ TB := tb_mem (tb_t3 (List.mem_of_getElem? (i := 238) rfl)) rfl
theorem tw_3_239 : Cond.selects RX4 yX4_safe yX4_safe ∈ TB := tb_mem (tb_t3 (List.mem_of_getElem? (i := 239) rfl)) rfl
theorem tw_4_0 : Cond.code yX4_safe cX4_safe 4 (some .int) ∈ TB := tb_mem (tb_t4 (List.mem_of_getElem? (i := 0) rfl)) rfl
theorem tw_4_1 : Cond.constantLong RX4 60 (96) ∈ TB := tb_mem (tb_t4 (List.mem_of_getElem? (i := 1) rfl)) rfl
theorem tw_4_2 : Cond.methodLink RX4 52 yX4_in ∈ TB := tb_mem (tb_t4 (List.mem_of_getElem? (i := 2) rfl)) rfl
theorem tw_4_3 : Cond.static yX4_in ∈ TB := tb_mem (tb_t4 (List.mem_of_getElem? (i := 3) rfl)) rfl
theorem tw_4_4 : Cond.code yX4_in cX4_in 6 (some .boolean) ∈ TB := tb_mem (tb_t4 (List.mem_of_getElem? (i := 4) rfl)) rfl
theorem tw_4_5 : Cond.constantLong RX4 62 (4) ∈ TB := tb_mem (tb_t4 (List.mem_of_getElem? (i := 5) rfl)) rfl
theorem tw_4_6 : Cond.methodLink RX4 64 yX4_bad ∈ TB := tb_mem (tb_t4 (List.mem_of_getElem? (i := 6) rfl)) rfl
theorem tw_4_8 : Cond.instanceMethod yX4_bad ∈ TB := tb_mem (tb_t4 (List.mem_of_getElem? (i := 8) rfl)) rfl
theorem tw_4_9 : Cond.code yX4_bad cX4_bad 1 (some .int) ∈ TB := tb_mem (tb_t4 (List.mem_of_getElem? (i := 9) rfl)) rfl
theorem tw_4_10 : Cond.methodLink RL 21 yX4_holder ∈ TB := tb_mem (tb_t4 (List.mem_of_getElem? (i := 10) rfl)) rfl
theorem tw_4_11 : Cond.instanceMethod yX4_holder ∈ TB := tb_mem (tb_t4 (List.mem_of_getElem? (i := 11) rfl)) rfl
theorem tw_4_12 : Cond.selects RX4 yX4_holder yX4_holder ∈ TB := tb_mem (tb_t4 (List.mem_of_getElem? (i := 12) rfl)) rfl
theorem tw_4_13 : Cond.code yX4_holder cX4_holder 3 (some .int) ∈ TB := tb_mem (tb_t4 (List.mem_of_getElem? (i := 13) rfl)) rfl
theorem tw_4_14 : Cond.constantLong RX4 68 (5) ∈ TB := tb_mem (tb_t4 (List.mem_of_getElem? (i := 14) rfl)) rfl
theorem tw_4_15 : Cond.methodLink RX4 70 yX4_full ∈ TB := tb_mem (tb_t4 (List.mem_of_getElem? (i := 15) rfl)) rfl
theorem tw_4_17 : Cond.instanceMethod yX4_full ∈ TB := tb_mem (tb_t4 (List.mem_of_getElem? (i := 17) rfl)) rfl
theorem tw_4_18 : Cond.code yX4_full cX4_full 1 (some .int) ∈ TB := tb_mem (tb_t4 (List.mem_of_getElem? (i := 18) rfl)) rfl
theorem tw_4_19 : Cond.methodLink RX4 73 yX4_add ∈ TB := tb_mem (tb_t4 (List.mem_of_getElem? (i := 19) rfl)) rfl
theorem tw_4_21 : Cond.instanceMethod yX4_add ∈ TB := tb_mem (tb_t4 (List.mem_of_getElem? (i := 21) rfl)) rfl
theorem tw_4_22 : Cond.code yX4_add cX4_add 3 none ∈ TB := tb_mem (tb_t4 (List.mem_of_getElem? (i := 22) rfl)) rfl
theorem tw_4_23 : Cond.methodLink RL 25 yX4_way ∈ TB := tb_mem (tb_t4 (List.mem_of_getElem? (i := 23) rfl)) rfl
theorem tw_4_24 : Cond.instanceMethod yX4_way ∈ TB := tb_mem (tb_t4 (List.mem_of_getElem? (i := 24) rfl)) rfl
theorem tw_4_25 : Cond.selects RX4 yX4_way yX4_way ∈ TB := tb_mem (tb_t4 (List.mem_of_getElem? (i := 25) rfl)) rfl
theorem tw_4_26 : Cond.code yX4_way cX4_way 4 (some .int) ∈ TB := tb_mem (tb_t4 (List.mem_of_getElem? (i := 26) rfl)) rfl
theorem tw_4_27 : Cond.constantLong RX4 76 (3) ∈ TB := tb_mem (tb_t4 (List.mem_of_getElem? (i := 27) rfl)) rfl
theorem tw_4_28 : Cond.methodLink RL 30 yX4_type ∈ TB := tb_mem (tb_t4 (List.mem_of_getElem? (i := 28) rfl)) rfl
theorem tw_4_29 : Cond.instanceMethod yX4_type ∈ TB := tb_mem (tb_t4 (List.mem_of_getElem? (i := 29) rfl)) rfl
theorem tw_4_30 : Cond.selects RX4 yX4_type yX4_type ∈ TB := tb_mem (tb_t4 (List.mem_of_getElem? (i := 30) rfl)) rfl
theorem tw_4_31 : Cond.code yX4_type cX4_type 2 (some .int) ∈ TB := tb_mem (tb_t4 (List.mem_of_getElem? (i := 31) rfl)) rfl
theorem tw_4_32 : Cond.constantLong RX4 78 (127) ∈ TB := tb_mem (tb_t4 (List.mem_of_getElem? (i := 32) rfl)) rfl
theorem tw_4_33 : Cond.methodLink RL 35 yX4_clear ∈ TB := tb_mem (tb_t4 (List.mem_of_getElem? (i := 33) rfl)) rfl
theorem tw_4_34 : Cond.instanceMethod yX4_clear ∈ TB := tb_mem (tb_t4 (List.mem_of_getElem? (i := 34) rfl)) rfl
theorem tw_4_35 : Cond.selects RX4 yX4_clear yX4_clear ∈ TB := tb_mem (tb_t4 (List.mem_of_getElem? (i := 35) rfl)) rfl
theorem tw_4_36 : Cond.code yX4_clear cX4_clear 2 (some .int) ∈ TB := tb_mem (tb_t4 (List.mem_of_getElem? (i := 36) rfl)) rfl
theorem tw_4_37 : Cond.methodLink RL 39 yX4_read ∈ TB := tb_mem (tb_t4 (List.mem_of_getElem? (i := 37) rfl)) rfl
theorem tw_4_38 : Cond.instanceMethod yX4_read ∈ TB := tb_mem (tb_t4 (List.mem_of_getElem? (i := 38) rfl)) rfl
theorem tw_4_39 : Cond.selects RX4 yX4_read yX4_read ∈ TB := tb_mem (tb_t4 (List.mem_of_getElem? (i := 39) rfl)) rfl
theorem tw_4_40 : Cond.code yX4_read cX4_read 1 (some .int) ∈ TB := tb_mem (tb_t4 (List.mem_of_getElem? (i := 40) rfl)) rfl
theorem tw_4_41 : Cond.methodLink RX4 125 yX4_readText ∈ TB := tb_mem (tb_t4 (List.mem_of_getElem? (i := 41) rfl)) rfl
theorem tw_4_43 : Cond.instanceMethod yX4_readText ∈ TB := tb_mem (tb_t4 (List.mem_of_getElem? (i := 43) rfl)) rfl
theorem tw_4_44 : Cond.code yX4_readText cX4_readText 3 (some .int) ∈ TB := tb_mem (tb_t4 (List.mem_of_getElem? (i := 44) rfl)) rfl
theorem tw_4_45 : Cond.methodLink RX4 107 yX4_nextToken ∈ TB := tb_mem (tb_t4 (List.mem_of_getElem? (i := 45) rfl)) rfl
theorem tw_4_47 : Cond.instanceMethod yX4_nextToken ∈ TB := tb_mem (tb_t4 (List.mem_of_getElem? (i := 47) rfl)) rfl
theorem tw_4_48 : Cond.code yX4_nextToken cX4_nextToken 1 none ∈ TB := tb_mem (tb_t4 (List.mem_of_getElem? (i := 48) rfl)) rfl
theorem tw_4_49 : Cond.methodLink RX4 86 yX4_byteAt ∈ TB := tb_mem (tb_t4 (List.mem_of_getElem? (i := 49) rfl)) rfl
theorem tw_4_51 : Cond.instanceMethod yX4_byteAt ∈ TB := tb_mem (tb_t4 (List.mem_of_getElem? (i := 51) rfl)) rfl
theorem tw_4_52 : Cond.code yX4_byteAt cX4_byteAt 2 (some .int) ∈ TB := tb_mem (tb_t4 (List.mem_of_getElem? (i := 52) rfl)) rfl
theorem tw_4_53 : Cond.constantLong RX4 99 (97) ∈ TB := tb_mem (tb_t4 (List.mem_of_getElem? (i := 53) rfl)) rfl
theorem tw_4_54 : Cond.constantLong RX4 101 (122) ∈ TB := tb_mem (tb_t4 (List.mem_of_getElem? (i := 54) rfl)) rfl
theorem tw_4_55 : Cond.constantLong RX4 103 (48) ∈ TB := tb_mem (tb_t4 (List.mem_of_getElem? (i := 55) rfl)) rfl
theorem tw_4_56 : Cond.constantLong RX4 105 (57) ∈ TB := tb_mem (tb_t4 (List.mem_of_getElem? (i := 56) rfl)) rfl
theorem tw_4_57 : Cond.methodLink RX4 121 yX4_readItem ∈ TB := tb_mem (tb_t4 (List.mem_of_getElem? (i := 57) rfl)) rfl
theorem tw_4_59 : Cond.instanceMethod yX4_readItem ∈ TB := tb_mem (tb_t4 (List.mem_of_getElem? (i := 59) rfl)) rfl
theorem tw_4_60 : Cond.code yX4_readItem cX4_readItem 4 (some .boolean) ∈ TB := tb_mem (tb_t4 (List.mem_of_getElem? (i := 60) rfl)) rfl
theorem tw_4_61 : Cond.methodLink RX4 110 yX4_isWord ∈ TB := tb_mem (tb_t4 (List.mem_of_getElem? (i := 61) rfl)) rfl
theorem tw_4_63 : Cond.instanceMethod yX4_isWord ∈ TB := tb_mem (tb_t4 (List.mem_of_getElem? (i := 63) rfl)) rfl
theorem tw_4_64 : Cond.code yX4_isWord cX4_isWord 9 (some .boolean) ∈ TB := tb_mem (tb_t4 (List.mem_of_getElem? (i := 64) rfl)) rfl
theorem tw_4_65 : Cond.methodLink RX4 114 yX4_reads ∈ TB := tb_mem (tb_t4 (List.mem_of_getElem? (i := 65) rfl)) rfl
theorem tw_4_67 : Cond.instanceMethod yX4_reads ∈ TB := tb_mem (tb_t4 (List.mem_of_getElem? (i := 67) rfl)) rfl
theorem tw_4_68 : Cond.code yX4_reads cX4_reads 4 (some .boolean) ∈ TB := tb_mem (tb_t4 (List.mem_of_getElem? (i := 68) rfl)) rfl
theorem tw_4_69 : Cond.methodLink RL 43 yX4_day ∈ TB := tb_mem (tb_t4 (List.mem_of_getElem? (i := 69) rfl)) rfl
theorem tw_4_70 : Cond.instanceMethod yX4_day ∈ TB := tb_mem (tb_t4 (List.mem_of_getElem? (i := 70) rfl)) rfl
theorem tw_4_71 : Cond.selects RX4 yX4_day yX4_day ∈ TB := tb_mem (tb_t4 (List.mem_of_getElem? (i := 71) rfl)) rfl
theorem tw_4_72 : Cond.code yX4_day cX4_day 2 (some .int) ∈ TB := tb_mem (tb_t4 (List.mem_of_getElem? (i := 72) rfl)) rfl
theorem tw_4_73 : Cond.methodLink RX4 163 yX4_areHolders ∈ TB := tb_mem (tb_t4 (List.mem_of_getElem? (i := 73) rfl)) rfl
theorem tw_4_75 : Cond.instanceMethod yX4_areHolders ∈ TB := tb_mem (tb_t4 (List.mem_of_getElem? (i := 75) rfl)) rfl
theorem tw_4_76 : Cond.code yX4_areHolders cX4_areHolders 2 (some .boolean) ∈ TB := tb_mem (tb_t4 (List.mem_of_getElem? (i := 76) rfl)) rfl
theorem tw_4_77 : Cond.methodLink RX4 167 yX4_note ∈ TB := tb_mem (tb_t4 (List.mem_of_getElem? (i := 77) rfl)) rfl
theorem tw_4_79 : Cond.instanceMethod yX4_note ∈ TB := tb_mem (tb_t4 (List.mem_of_getElem? (i := 79) rfl)) rfl
theorem tw_4_80 : Cond.code yX4_note cX4_note 2 none ∈ TB := tb_mem (tb_t4 (List.mem_of_getElem? (i := 80) rfl)) rfl
theorem tw_4_81 : Cond.methodLink RX4 170 yX4_oneDay ∈ TB := tb_mem (tb_t4 (List.mem_of_getElem? (i := 81) rfl)) rfl
theorem tw_4_83 : Cond.instanceMethod yX4_oneDay ∈ TB := tb_mem (tb_t4 (List.mem_of_getElem? (i := 83) rfl)) rfl
theorem tw_4_84 : Cond.code yX4_oneDay cX4_oneDay 3 (some .int) ∈ TB := tb_mem (tb_t4 (List.mem_of_getElem? (i := 84) rfl)) rfl
theorem tw_4_85 : Cond.methodLink RX4 159 yX4_triedBy ∈ TB := tb_mem (tb_t4 (List.mem_of_getElem? (i := 85) rfl)) rfl
theorem tw_4_87 : Cond.instanceMethod yX4_triedBy ∈ TB := tb_mem (tb_t4 (List.mem_of_getElem? (i := 87) rfl)) rfl
theorem tw_4_88 : Cond.code yX4_triedBy cX4_triedBy 4 (some .int) ∈ TB := tb_mem (tb_t4 (List.mem_of_getElem? (i := 88) rfl)) rfl
theorem tw_4_89 : Cond.methodLink RX4 153 yX4_tellAll ∈ TB := tb_mem (tb_t4 (List.mem_of_getElem? (i := 89) rfl)) rfl
theorem tw_4_91 : Cond.instanceMethod yX4_tellAll ∈ TB := tb_mem (tb_t4 (List.mem_of_getElem? (i := 91) rfl)) rfl
theorem tw_4_92 : Cond.code yX4_tellAll cX4_tellAll 5 none ∈ TB := tb_mem (tb_t4 (List.mem_of_getElem? (i := 92) rfl)) rfl
theorem tw_4_93 : Cond.methodLink RX4 138 yX4_ones ∈ TB := tb_mem (tb_t4 (List.mem_of_getElem? (i := 93) rfl)) rfl
theorem tw_4_94 : Cond.static yX4_ones ∈ TB := tb_mem (tb_t4 (List.mem_of_getElem? (i := 94) rfl)) rfl
theorem tw_4_95 : Cond.code yX4_ones cX4_ones 3 (some .int) ∈ TB := tb_mem (tb_t4 (List.mem_of_getElem? (i := 95) rfl)) rfl
theorem tw_4_96 : Cond.methodLink RX4 141 yX4_has ∈ TB := tb_mem (tb_t4 (List.mem_of_getElem? (i := 96) rfl)) rfl
theorem tw_4_97 : Cond.static yX4_has ∈ TB := tb_mem (tb_t4 (List.mem_of_getElem? (i := 97) rfl)) rfl
theorem tw_4_98 : Cond.code yX4_has cX4_has 2 (some .boolean) ∈ TB := tb_mem (tb_t4 (List.mem_of_getElem? (i := 98) rfl)) rfl
theorem tw_4_99 : Cond.methodLink RX4 145 yX4_shareOf ∈ TB := tb_mem (tb_t4 (List.mem_of_getElem? (i := 99) rfl)) rfl
theorem tw_4_101 : Cond.instanceMethod yX4_shareOf ∈ TB := tb_mem (tb_t4 (List.mem_of_getElem? (i := 101) rfl)) rfl
theorem tw_4_102 : Cond.code yX4_shareOf cX4_shareOf 8 (some .int) ∈ TB := tb_mem (tb_t4 (List.mem_of_getElem? (i := 102) rfl)) rfl
theorem tw_4_103 : Cond.methodLink RX4 149 yX4_toldOf ∈ TB := tb_mem (tb_t4 (List.mem_of_getElem? (i := 103) rfl)) rfl
theorem tw_4_105 : Cond.instanceMethod yX4_toldOf ∈ TB := tb_mem (tb_t4 (List.mem_of_getElem? (i := 105) rfl)) rfl
theorem tw_4_106 : Cond.code yX4_toldOf cX4_toldOf 8 (some .int) ∈ TB := tb_mem (tb_t4 (List.mem_of_getElem? (i := 106) rfl)) rfl
theorem tw_4_107 : Cond.methodLink RX4 156 yX4_found ∈ TB := tb_mem (tb_t4 (List.mem_of_getElem? (i := 107) rfl)) rfl
theorem tw_4_109 : Cond.instanceMethod yX4_found ∈ TB := tb_mem (tb_t4 (List.mem_of_getElem? (i := 109) rfl)) rfl
theorem tw_4_110 : Cond.code yX4_found cX4_found 1 (some .int) ∈ TB := tb_mem (tb_t4 (List.mem_of_getElem? (i := 110) rfl)) rfl
theorem tw_4_111 : Cond.methodLink RX4 132 yX4_pointMany ∈ TB := tb_mem (tb_t4 (List.mem_of_getElem? (i := 111) rfl)) rfl
theorem tw_4_113 : Cond.instanceMethod yX4_pointMany ∈ TB := tb_mem (tb_t4 (List.mem_of_getElem? (i := 113) rfl)) rfl
theorem tw_4_114 : Cond.code yX4_pointMany cX4_pointMany 3 (some .int) ∈ TB := tb_mem (tb_t4 (List.mem_of_getElem? (i := 114) rfl)) rfl
theorem tw_4_115 : Cond.methodLink RX4 135 yX4_valueAt ∈ TB := tb_mem (tb_t4 (List.mem_of_getElem? (i := 115) rfl)) rfl
theorem tw_4_117 : Cond.instanceMethod yX4_valueAt ∈ TB := tb_mem (tb_t4 (List.mem_of_getElem? (i := 117) rfl)) rfl
theorem tw_4_118 : Cond.code yX4_valueAt cX4_valueAt 9 (some .int) ∈ TB := tb_mem (tb_t4 (List.mem_of_getElem? (i := 118) rfl)) rfl
theorem tw_4_119 : Cond.methodLink RX4 129 yX4_inverse ∈ TB := tb_mem (tb_t4 (List.mem_of_getElem? (i := 119) rfl)) rfl
theorem tw_4_120 : Cond.static yX4_inverse ∈ TB := tb_mem (tb_t4 (List.mem_of_getElem? (i := 120) rfl)) rfl
theorem tw_4_121 : Cond.code yX4_inverse cX4_inverse 3 (some .int) ∈ TB := tb_mem (tb_t4 (List.mem_of_getElem? (i := 121) rfl)) rfl
theorem tw_4_122 : Cond.methodLink RL 47 yX4_change ∈ TB := tb_mem (tb_t4 (List.mem_of_getElem? (i := 122) rfl)) rfl
theorem tw_4_123 : Cond.instanceMethod yX4_change ∈ TB := tb_mem (tb_t4 (List.mem_of_getElem? (i := 123) rfl)) rfl
theorem tw_4_124 : Cond.selects RX4 yX4_change yX4_change ∈ TB := tb_mem (tb_t4 (List.mem_of_getElem? (i := 124) rfl)) rfl
theorem tw_4_125 : Cond.code yX4_change cX4_change 3 (some .int) ∈ TB := tb_mem (tb_t4 (List.mem_of_getElem? (i := 125) rfl)) rfl
theorem tw_4_126 : Cond.constantLong RX4 184 (999999) ∈ TB := tb_mem (tb_t4 (List.mem_of_getElem? (i := 126) rfl)) rfl
theorem tw_4_127 : Cond.methodLink RX4 186 yX4_draw ∈ TB := tb_mem (tb_t4 (List.mem_of_getElem? (i := 127) rfl)) rfl
theorem tw_4_129 : Cond.instanceMethod yX4_draw ∈ TB := tb_mem (tb_t4 (List.mem_of_getElem? (i := 129) rfl)) rfl
theorem tw_4_130 : Cond.code yX4_draw cX4_draw 2 (some .int) ∈ TB := tb_mem (tb_t4 (List.mem_of_getElem? (i := 130) rfl)) rfl
theorem tw_4_131 : Cond.constantLong RX4 176 (1103515245) ∈ TB := tb_mem (tb_t4 (List.mem_of_getElem? (i := 131) rfl)) rfl
theorem tw_4_132 : Cond.constantLong RX4 178 (12345) ∈ TB := tb_mem (tb_t4 (List.mem_of_getElem? (i := 132) rfl)) rfl
theorem tw_4_133 : Cond.constantLong RX4 180 (2147483648) ∈ TB := tb_mem (tb_t4 (List.mem_of_getElem? (i := 133) rfl)) rfl
theorem tw_4_134 : Cond.constantLong RX4 182 (65536) ∈ TB := tb_mem (tb_t4 (List.mem_of_getElem? (i := 134) rfl)) rfl
theorem tw_4_135 : Cond.methodLink RL 51 yX4_undo ∈ TB := tb_mem (tb_t4 (List.mem_of_getElem? (i := 135) rfl)) rfl
theorem tw_4_136 : Cond.instanceMethod yX4_undo ∈ TB := tb_mem (tb_t4 (List.mem_of_getElem? (i := 136) rfl)) rfl
theorem tw_4_137 : Cond.selects RX4 yX4_undo yX4_undo ∈ TB := tb_mem (tb_t4 (List.mem_of_getElem? (i := 137) rfl)) rfl
theorem tw_4_138 : Cond.code yX4_undo cX4_undo 2 (some .int) ∈ TB := tb_mem (tb_t4 (List.mem_of_getElem? (i := 138) rfl)) rfl
theorem tw_4_139 : Cond.methodLink RX4 189 yX4_no ∈ TB := tb_mem (tb_t4 (List.mem_of_getElem? (i := 139) rfl)) rfl
theorem tw_4_141 : Cond.instanceMethod yX4_no ∈ TB := tb_mem (tb_t4 (List.mem_of_getElem? (i := 141) rfl)) rfl
theorem tw_4_142 : Cond.code yX4_no cX4_no 1 (some .int) ∈ TB := tb_mem (tb_t4 (List.mem_of_getElem? (i := 142) rfl)) rfl
theorem tw_4_143 : Cond.methodLink RL 55 yX4_of ∈ TB := tb_mem (tb_t4 (List.mem_of_getElem? (i := 143) rfl)) rfl
theorem tw_4_144 : Cond.instanceMethod yX4_of ∈ TB := tb_mem (tb_t4 (List.mem_of_getElem? (i := 144) rfl)) rfl
theorem tw_4_145 : Cond.selects RX4 yX4_of yX4_of ∈ TB := tb_mem (tb_t4 (List.mem_of_getElem? (i := 145) rfl)) rfl
theorem tw_4_146 : Cond.code yX4_of cX4_of 3 (some .int) ∈ TB := tb_mem (tb_t4 (List.mem_of_getElem? (i := 146) rfl)) rfl
theorem tw_4_147 : Cond.methodLink RX4 192 yX4_isHolder ∈ TB := tb_mem (tb_t4 (List.mem_of_getElem? (i := 147) rfl)) rfl
theorem tw_4_149 : Cond.instanceMethod yX4_isHolder ∈ TB := tb_mem (tb_t4 (List.mem_of_getElem? (i := 149) rfl)) rfl
theorem tw_4_150 : Cond.code yX4_isHolder cX4_isHolder 2 (some .boolean) ∈ TB := tb_mem (tb_t4 (List.mem_of_getElem? (i := 150) rfl)) rfl
theorem tw_4_151 : Cond.constantLong RX4 195 (2) ∈ TB := tb_mem (tb_t4 (List.mem_of_getElem? (i := 151) rfl)) rfl
theorem tw_4_152 : Cond.methodLink RL 60 yX4_tells ∈ TB := tb_mem (tb_t4 (List.mem_of_getElem? (i := 152) rfl)) rfl
theorem tw_4_153 : Cond.instanceMethod yX4_tells ∈ TB := tb_mem (tb_t4 (List.mem_of_getElem? (i := 153) rfl)) rfl
theorem tw_4_154 : Cond.selects RX4 yX4_tells yX4_tells ∈ TB := tb_mem (tb_t4 (List.mem_of_getElem? (i := 154) rfl)) rfl
theorem tw_4_155 : Cond.code yX4_tells cX4_tells 4 (some .int) ∈ TB := tb_mem (tb_t4 (List.mem_of_getElem? (i := 155) rfl)) rfl
theorem tw_4_156 : Cond.constantLong RX4 197 (999) ∈ TB := tb_mem (tb_t4 (List.mem_of_getElem? (i := 156) rfl)) rfl
theorem tw_4_157 : Cond.constantLong RX4 199 (6) ∈ TB := tb_mem (tb_t4 (List.mem_of_getElem? (i := 157) rfl)) rfl
theorem tw_4_158 : Cond.methodLink RL 64 yX4_finds ∈ TB := tb_mem (tb_t4 (List.mem_of_getElem? (i := 158) rfl)) rfl
theorem tw_4_159 : Cond.instanceMethod yX4_finds ∈ TB := tb_mem (tb_t4 (List.mem_of_getElem? (i := 159) rfl)) rfl
theorem tw_4_160 : Cond.selects RX4 yX4_finds yX4_finds ∈ TB := tb_mem (tb_t4 (List.mem_of_getElem? (i := 160) rfl)) rfl
theorem tw_4_161 : Cond.code yX4_finds cX4_finds 3 (some .int) ∈ TB := tb_mem (tb_t4 (List.mem_of_getElem? (i := 161) rfl)) rfl
theorem tw_4_162 : Cond.methodLink RL 68 yX4_knows ∈ TB := tb_mem (tb_t4 (List.mem_of_getElem? (i := 162) rfl)) rfl
theorem tw_4_163 : Cond.instanceMethod yX4_knows ∈ TB := tb_mem (tb_t4 (List.mem_of_getElem? (i := 163) rfl)) rfl
theorem tw_4_164 : Cond.selects RX4 yX4_knows yX4_knows ∈ TB := tb_mem (tb_t4 (List.mem_of_getElem? (i := 164) rfl)) rfl
theorem tw_4_165 : Cond.code yX4_knows cX4_knows 2 (some .int) ∈ TB := tb_mem (tb_t4 (List.mem_of_getElem? (i := 165) rfl)) rfl
theorem tw_4_166 : Cond.methodLink RL 72 yX4_comes ∈ TB := tb_mem (tb_t4 (List.mem_of_getElem? (i := 166) rfl)) rfl
theorem tw_4_167 : Cond.instanceMethod yX4_comes ∈ TB := tb_mem (tb_t4 (List.mem_of_getElem? (i := 167) rfl)) rfl
theorem tw_4_168 : Cond.selects RX4 yX4_comes yX4_comes ∈ TB := tb_mem (tb_t4 (List.mem_of_getElem? (i := 168) rfl)) rfl
theorem tw_4_169 : Cond.code yX4_comes cX4_comes 3 (some .int) ∈ TB := tb_mem (tb_t4 (List.mem_of_getElem? (i := 169) rfl)) rfl
theorem tw_4_170 : Cond.methodLink RL 76 yX4_tell ∈ TB := tb_mem (tb_t4 (List.mem_of_getElem? (i := 170) rfl)) rfl
theorem tw_4_171 : Cond.instanceMethod yX4_tell ∈ TB := tb_mem (tb_t4 (List.mem_of_getElem? (i := 171) rfl)) rfl
theorem tw_4_172 : Cond.selects RX4 yX4_tell yX4_tell ∈ TB := tb_mem (tb_t4 (List.mem_of_getElem? (i := 172) rfl)) rfl
theorem tw_4_173 : Cond.code yX4_tell cX4_tell 4 (some .int) ∈ TB := tb_mem (tb_t4 (List.mem_of_getElem? (i := 173) rfl)) rfl
theorem tw_4_174 : Cond.constantLong RX4 201 (-1) ∈ TB := tb_mem (tb_t4 (List.mem_of_getElem? (i := 174) rfl)) rfl
theorem tw_4_175 : Cond.methodLink RL 80 yX4_forget ∈ TB := tb_mem (tb_t4 (List.mem_of_getElem? (i := 175) rfl)) rfl
theorem tw_4_176 : Cond.instanceMethod yX4_forget ∈ TB := tb_mem (tb_t4 (List.mem_of_getElem? (i := 176) rfl)) rfl
theorem tw_4_177 : Cond.selects RX4 yX4_forget yX4_forget ∈ TB := tb_mem (tb_t4 (List.mem_of_getElem? (i := 177) rfl)) rfl
theorem tw_4_178 : Cond.code yX4_forget cX4_forget 3 (some .int) ∈ TB := tb_mem (tb_t4 (List.mem_of_getElem? (i := 178) rfl)) rfl
theorem tw_4_179 : Cond.methodLink RX4 203 yX4_toldMany ∈ TB := tb_mem (tb_t4 (List.mem_of_getElem? (i := 179) rfl)) rfl
theorem tw_4_181 : Cond.instanceMethod yX4_toldMany ∈ TB := tb_mem (tb_t4 (List.mem_of_getElem? (i := 181) rfl)) rfl
theorem tw_4_182 : Cond.code yX4_toldMany cX4_toldMany 3 (some .int) ∈ TB := tb_mem (tb_t4 (List.mem_of_getElem? (i := 182) rfl)) rfl
theorem tw_4_183 : Cond.methodLink RL 84 yX4_agree ∈ TB := tb_mem (tb_t4 (List.mem_of_getElem? (i := 183) rfl)) rfl
theorem tw_4_184 : Cond.instanceMethod yX4_agree ∈ TB := tb_mem (tb_t4 (List.mem_of_getElem? (i := 184) rfl)) rfl
theorem tw_4_185 : Cond.selects RX4 yX4_agree yX4_agree ∈ TB := tb_mem (tb_t4 (List.mem_of_getElem? (i := 185) rfl)) rfl
theorem tw_4_186 : Cond.code yX4_agree cX4_agree 1 (some .int) ∈ TB := tb_mem (tb_t4 (List.mem_of_getElem? (i := 186) rfl)) rfl
theorem tw_4_187 : Cond.methodLink RX4 206 yX4_takeTold ∈ TB := tb_mem (tb_t4 (List.mem_of_getElem? (i := 187) rfl)) rfl
theorem tw_4_189 : Cond.instanceMethod yX4_takeTold ∈ TB := tb_mem (tb_t4 (List.mem_of_getElem? (i := 189) rfl)) rfl
theorem tw_4_190 : Cond.code yX4_takeTold cX4_takeTold 3 none ∈ TB := tb_mem (tb_t4 (List.mem_of_getElem? (i := 190) rfl)) rfl
theorem tw_4_191 : Cond.methodLink RX4 210 yX4_agrees ∈ TB := tb_mem (tb_t4 (List.mem_of_getElem? (i := 191) rfl)) rfl
theorem tw_4_193 : Cond.instanceMethod yX4_agrees ∈ TB := tb_mem (tb_t4 (List.mem_of_getElem? (i := 193) rfl)) rfl
theorem tw_4_194 : Cond.code yX4_agrees cX4_agrees 3 (some .boolean) ∈ TB := tb_mem (tb_t4 (List.mem_of_getElem? (i := 194) rfl)) rfl
theorem tw_4_195 : Cond.methodLink RL 88 yX4_liars ∈ TB := tb_mem (tb_t4 (List.mem_of_getElem? (i := 195) rfl)) rfl
theorem tw_4_196 : Cond.instanceMethod yX4_liars ∈ TB := tb_mem (tb_t4 (List.mem_of_getElem? (i := 196) rfl)) rfl
theorem tw_4_197 : Cond.selects RX4 yX4_liars yX4_liars ∈ TB := tb_mem (tb_t4 (List.mem_of_getElem? (i := 197) rfl)) rfl
theorem tw_4_198 : Cond.code yX4_liars cX4_liars 1 (some .int) ∈ TB := tb_mem (tb_t4 (List.mem_of_getElem? (i := 198) rfl)) rfl
theorem tw_4_199 : Cond.methodLink RX4 214 yX4_findLiars ∈ TB := tb_mem (tb_t4 (List.mem_of_getElem? (i := 199) rfl)) rfl
theorem tw_4_201 : Cond.instanceMethod yX4_findLiars ∈ TB := tb_mem (tb_t4 (List.mem_of_getElem? (i := 201) rfl)) rfl
theorem tw_4_202 : Cond.code yX4_findLiars cX4_findLiars 5 (some .int) ∈ TB := tb_mem (tb_t4 (List.mem_of_getElem? (i := 202) rfl)) rfl
theorem tw_4_203 : Cond.methodLink RL 92 yX4_guess ∈ TB := tb_mem (tb_t4 (List.mem_of_getElem? (i := 203) rfl)) rfl
theorem tw_4_204 : Cond.instanceMethod yX4_guess ∈ TB := tb_mem (tb_t4 (List.mem_of_getElem? (i := 204) rfl)) rfl
theorem tw_4_205 : Cond.selects RX4 yX4_guess yX4_guess ∈ TB := tb_mem (tb_t4 (List.mem_of_getElem? (i := 205) rfl)) rfl
theorem tw_4_206 : Cond.code yX4_guess cX4_guess 2 (some .int) ∈ TB := tb_mem (tb_t4 (List.mem_of_getElem? (i := 206) rfl)) rfl
theorem tw_4_207 : Cond.methodLink RL 96 yX4_mixed ∈ TB := tb_mem (tb_t4 (List.mem_of_getElem? (i := 207) rfl)) rfl
theorem tw_4_208 : Cond.instanceMethod yX4_mixed ∈ TB := tb_mem (tb_t4 (List.mem_of_getElem? (i := 208) rfl)) rfl
theorem tw_4_209 : Cond.selects RX4 yX4_mixed yX4_mixed ∈ TB := tb_mem (tb_t4 (List.mem_of_getElem? (i := 209) rfl)) rfl
theorem tw_4_210 : Cond.code yX4_mixed cX4_mixed 5 (some .int) ∈ TB := tb_mem (tb_t4 (List.mem_of_getElem? (i := 210) rfl)) rfl
theorem tw_4_211 : Cond.methodLink RX4 217 yX4_isWhat ∈ TB := tb_mem (tb_t4 (List.mem_of_getElem? (i := 211) rfl)) rfl
theorem tw_4_212 : Cond.static yX4_isWhat ∈ TB := tb_mem (tb_t4 (List.mem_of_getElem? (i := 212) rfl)) rfl
theorem tw_4_213 : Cond.code yX4_isWhat cX4_isWhat 1 (some .boolean) ∈ TB := tb_mem (tb_t4 (List.mem_of_getElem? (i := 213) rfl)) rfl
theorem tw_4_214 : Cond.methodLink RL 100 yX4_odds ∈ TB := tb_mem (tb_t4 (List.mem_of_getElem? (i := 214) rfl)) rfl
theorem tw_4_215 : Cond.instanceMethod yX4_odds ∈ TB := tb_mem (tb_t4 (List.mem_of_getElem? (i := 215) rfl)) rfl
theorem tw_4_216 : Cond.selects RX4 yX4_odds yX4_odds ∈ TB := tb_mem (tb_t4 (List.mem_of_getElem? (i := 216) rfl)) rfl
theorem tw_4_217 : Cond.code yX4_odds cX4_odds 2 (some .int) ∈ TB := tb_mem (tb_t4 (List.mem_of_getElem? (i := 217) rfl)) rfl
theorem tw_4_218 : Cond.constantLong RX4 226 (10) ∈ TB := tb_mem (tb_t4 (List.mem_of_getElem? (i := 218) rfl)) rfl
theorem tw_4_219 : Cond.methodLink RX4 228 yX4_atLeast ∈ TB := tb_mem (tb_t4 (List.mem_of_getElem? (i := 219) rfl)) rfl
theorem tw_4_221 : Cond.instanceMethod yX4_atLeast ∈ TB := tb_mem (tb_t4 (List.mem_of_getElem? (i := 221) rfl)) rfl
theorem tw_4_222 : Cond.code yX4_atLeast cX4_atLeast 9 (some .long) ∈ TB := tb_mem (tb_t4 (List.mem_of_getElem? (i := 222) rfl)) rfl
theorem tw_4_223 : Cond.methodLink RX4 220 yX4_everybody ∈ TB := tb_mem (tb_t4 (List.mem_of_getElem? (i := 223) rfl)) rfl
theorem tw_4_225 : Cond.instanceMethod yX4_everybody ∈ TB := tb_mem (tb_t4 (List.mem_of_getElem? (i := 225) rfl)) rfl
theorem tw_4_226 : Cond.code yX4_everybody cX4_everybody 1 (some .int) ∈ TB := tb_mem (tb_t4 (List.mem_of_getElem? (i := 226) rfl)) rfl
theorem tw_4_227 : Cond.methodLink RX4 232 yX4_setFraction ∈ TB := tb_mem (tb_t4 (List.mem_of_getElem? (i := 227) rfl)) rfl
theorem tw_4_229 : Cond.instanceMethod yX4_setFraction ∈ TB := tb_mem (tb_t4 (List.mem_of_getElem? (i := 229) rfl)) rfl
theorem tw_4_230 : Cond.code yX4_setFraction cX4_setFraction 11 none ∈ TB := tb_mem (tb_t4 (List.mem_of_getElem? (i := 230) rfl)) rfl
theorem tw_4_231 : Cond.methodLink RL 104 yX4_best ∈ TB := tb_mem (tb_t4 (List.mem_of_getElem? (i := 231) rfl)) rfl
theorem tw_4_232 : Cond.instanceMethod yX4_best ∈ TB := tb_mem (tb_t4 (List.mem_of_getElem? (i := 232) rfl)) rfl
theorem tw_4_233 : Cond.selects RX4 yX4_best yX4_best ∈ TB := tb_mem (tb_t4 (List.mem_of_getElem? (i := 233) rfl)) rfl
theorem tw_4_234 : Cond.code yX4_best cX4_best 7 (some .int) ∈ TB := tb_mem (tb_t4 (List.mem_of_getElem? (i := 234) rfl)) rfl
theorem tw_4_235 : Cond.methodLink RL 108 yX4_must ∈ TB := tb_mem (tb_t4 (List.mem_of_getElem? (i := 235) rfl)) rfl
theorem tw_4_236 : Cond.instanceMethod yX4_must ∈ TB := tb_mem (tb_t4 (List.mem_of_getElem? (i := 236) rfl)) rfl
theorem tw_4_237 : Cond.selects RX4 yX4_must yX4_must ∈ TB := tb_mem (tb_t4 (List.mem_of_getElem? (i := 237) rfl)) rfl
theorem tw_4_238 : Cond.code yX4_must cX4_must 4 (some .int) ∈ TB := tb_mem (tb_t4 (List.mem_of_getElem? (i := 238) rfl)) rfl
theorem tw_4_239 : Cond.methodLink RL 112 yX4_cars ∈ TB := tb_mem (tb_t4 (List.mem_of_getElem? (i := 239) rfl)) rfl
theorem tw_5_0 : Cond.instanceMethod yX4_cars ∈ TB := tb_mem (tb_t5 (List.mem_of_getElem? (i := 0) rfl)) rfl
theorem tw_5_1 : Cond.selects RX4 yX4_cars yX4_cars ∈ TB := tb_mem (tb_t5 (List.mem_of_getElem? (i := 1) rfl)) rfl
theorem tw_5_2 : Cond.code yX4_cars cX4_cars 5 (some .int) ∈ TB := tb_mem (tb_t5 (List.mem_of_getElem? (i := 2) rfl)) rfl
theorem tw_5_3 : Cond.methodLink RX4 236 yX4_isParting ∈ TB := tb_mem (tb_t5 (List.mem_of_getElem? (i := 3) rfl)) rfl
theorem tw_5_5 : Cond.instanceMethod yX4_isParting ∈ TB := tb_mem (tb_t5 (List.mem_of_getElem? (i := 5) rfl)) rfl
theorem tw_5_6 : Cond.code yX4_isParting cX4_isParting 2 (some .boolean) ∈ TB := tb_mem (tb_t5 (List.mem_of_getElem? (i := 6) rfl)) rfl
theorem tw_5_7 : Cond.methodLink RL 116 yX4_envelope ∈ TB := tb_mem (tb_t5 (List.mem_of_getElem? (i := 7) rfl)) rfl
theorem tw_5_8 : Cond.instanceMethod yX4_envelope ∈ TB := tb_mem (tb_t5 (List.mem_of_getElem? (i := 8) rfl)) rfl
theorem tw_5_9 : Cond.selects RX4 yX4_envelope yX4_envelope ∈ TB := tb_mem (tb_t5 (List.mem_of_getElem? (i := 9) rfl)) rfl
theorem tw_5_10 : Cond.code yX4_envelope cX4_envelope 8 (some .int) ∈ TB := tb_mem (tb_t5 (List.mem_of_getElem? (i := 10) rfl)) rfl
theorem tw_5_11 : Cond.constantLong RX4 239 (990) ∈ TB := tb_mem (tb_t5 (List.mem_of_getElem? (i := 11) rfl)) rfl
theorem tw_5_12 : Cond.methodLink RL 120 yX4_days ∈ TB := tb_mem (tb_t5 (List.mem_of_getElem? (i := 12) rfl)) rfl
theorem tw_5_13 : Cond.instanceMethod yX4_days ∈ TB := tb_mem (tb_t5 (List.mem_of_getElem? (i := 13) rfl)) rfl
theorem tw_5_14 : Cond.selects RX4 yX4_days yX4_days ∈ TB := tb_mem (tb_t5 (List.mem_of_getElem? (i := 14) rfl)) rfl
theorem tw_5_15 : Cond.code yX4_days cX4_days 11 (some .int) ∈ TB := tb_mem (tb_t5 (List.mem_of_getElem? (i := 15) rfl)) rfl
theorem tw_5_16 : Cond.constantLong RX4 241 (60) ∈ TB := tb_mem (tb_t5 (List.mem_of_getElem? (i := 16) rfl)) rfl
theorem tw_5_17 : Cond.constantLong RX4 243 (100) ∈ TB := tb_mem (tb_t5 (List.mem_of_getElem? (i := 17) rfl)) rfl
theorem tw_5_18 : Cond.methodLink RL 125 yX4_part ∈ TB := tb_mem (tb_t5 (List.mem_of_getElem? (i := 18) rfl)) rfl
theorem tw_5_19 : Cond.instanceMethod yX4_part ∈ TB := tb_mem (tb_t5 (List.mem_of_getElem? (i := 19) rfl)) rfl
theorem tw_5_20 : Cond.selects RX4 yX4_part yX4_part ∈ TB := tb_mem (tb_t5 (List.mem_of_getElem? (i := 20) rfl)) rfl
theorem tw_5_21 : Cond.code yX4_part cX4_part 2 (some .long) ∈ TB := tb_mem (tb_t5 (List.mem_of_getElem? (i := 21) rfl)) rfl
theorem tw_5_22 : Cond.methodLink RL 129 yX4_image ∈ TB := tb_mem (tb_t5 (List.mem_of_getElem? (i := 22) rfl)) rfl
theorem tw_5_23 : Cond.instanceMethod yX4_image ∈ TB := tb_mem (tb_t5 (List.mem_of_getElem? (i := 23) rfl)) rfl
theorem tw_5_24 : Cond.selects RX4 yX4_image yX4_image ∈ TB := tb_mem (tb_t5 (List.mem_of_getElem? (i := 24) rfl)) rfl
theorem tw_5_25 : Cond.code yX4_image cX4_image 3 (some .int) ∈ TB := tb_mem (tb_t5 (List.mem_of_getElem? (i := 25) rfl)) rfl
theorem tw_5_26 : Cond.methodLink RL 133 yX4_from ∈ TB := tb_mem (tb_t5 (List.mem_of_getElem? (i := 26) rfl)) rfl
theorem tw_5_27 : Cond.instanceMethod yX4_from ∈ TB := tb_mem (tb_t5 (List.mem_of_getElem? (i := 27) rfl)) rfl
theorem tw_5_28 : Cond.selects RX4 yX4_from yX4_from ∈ TB := tb_mem (tb_t5 (List.mem_of_getElem? (i := 28) rfl)) rfl
theorem tw_5_29 : Cond.code yX4_from cX4_from 3 (some .int) ∈ TB := tb_mem (tb_t5 (List.mem_of_getElem? (i := 29) rfl)) rfl
theorem tw_5_30 : Cond.methodLink RL 137 yX4_status ∈ TB := tb_mem (tb_t5 (List.mem_of_getElem? (i := 30) rfl)) rfl
theorem tw_5_31 : Cond.instanceMethod yX4_status ∈ TB := tb_mem (tb_t5 (List.mem_of_getElem? (i := 31) rfl)) rfl
theorem tw_5_32 : Cond.selects RX4 yX4_status yX4_status ∈ TB := tb_mem (tb_t5 (List.mem_of_getElem? (i := 32) rfl)) rfl
theorem tw_5_33 : Cond.code yX4_status cX4_status 2 (some .int) ∈ TB := tb_mem (tb_t5 (List.mem_of_getElem? (i := 33) rfl)) rfl
theorem tw_5_34 : Cond.methodLink RL 141 yX4_count ∈ TB := tb_mem (tb_t5 (List.mem_of_getElem? (i := 34) rfl)) rfl
theorem tw_5_35 : Cond.instanceMethod yX4_count ∈ TB := tb_mem (tb_t5 (List.mem_of_getElem? (i := 35) rfl)) rfl
theorem tw_5_36 : Cond.selects RX4 yX4_count yX4_count ∈ TB := tb_mem (tb_t5 (List.mem_of_getElem? (i := 36) rfl)) rfl
theorem tw_5_37 : Cond.code yX4_count cX4_count 2 (some .int) ∈ TB := tb_mem (tb_t5 (List.mem_of_getElem? (i := 37) rfl)) rfl
theorem tw_5_38 : Cond.constantLong RX4 245 (7) ∈ TB := tb_mem (tb_t5 (List.mem_of_getElem? (i := 38) rfl)) rfl
theorem tw_5_39 : Cond.methodLink RX4 247 yX4_countOf ∈ TB := tb_mem (tb_t5 (List.mem_of_getElem? (i := 39) rfl)) rfl
theorem tw_5_41 : Cond.instanceMethod yX4_countOf ∈ TB := tb_mem (tb_t5 (List.mem_of_getElem? (i := 41) rfl)) rfl
theorem tw_5_42 : Cond.code yX4_countOf cX4_countOf 2 (some .int) ∈ TB := tb_mem (tb_t5 (List.mem_of_getElem? (i := 42) rfl)) rfl
theorem tw_5_43 : Cond.methodLink RL 146 yX4_digest ∈ TB := tb_mem (tb_t5 (List.mem_of_getElem? (i := 43) rfl)) rfl
theorem tw_5_44 : Cond.instanceMethod yX4_digest ∈ TB := tb_mem (tb_t5 (List.mem_of_getElem? (i := 44) rfl)) rfl
theorem tw_5_45 : Cond.selects RX4 yX4_digest yX4_digest ∈ TB := tb_mem (tb_t5 (List.mem_of_getElem? (i := 45) rfl)) rfl
theorem tw_5_46 : Cond.code yX4_digest cX4_digest 4 (some .long) ∈ TB := tb_mem (tb_t5 (List.mem_of_getElem? (i := 46) rfl)) rfl
theorem tw_5_47 : Cond.constantLong RX4 250 (1063) ∈ TB := tb_mem (tb_t5 (List.mem_of_getElem? (i := 47) rfl)) rfl
theorem tw_5_48 : Cond.constantLong RX4 252 (31) ∈ TB := tb_mem (tb_t5 (List.mem_of_getElem? (i := 48) rfl)) rfl
theorem tw_5_49 : Cond.fieldLink RJ0 9 "java/lang/String" "value" "[B" ∈ TB := tb_mem (tb_t5 (List.mem_of_getElem? (i := 49) rfl)) rfl
theorem tw_5_50 : Cond.fieldLink RJ0 15 "java/lang/String" "coder" "B" ∈ TB := tb_mem (tb_t5 (List.mem_of_getElem? (i := 50) rfl)) rfl
theorem tw_ac_n : Cond.native arraycopyName ∈ TB := tw_2_90
theorem tw_ac_s : Cond.static arraycopyName ∈ TB := tw_2_89
theorem tw_ac_i : Cond.initialized "java/lang/System" ∈ TB := tw_1_11
theorem tw_in_X3 : Cond.instantiable RX3 13 ∈ TB := tb_mem (tb_t1 (List.mem_of_getElem? (i := 15) rfl)) rfl
theorem tw_in_X0 : Cond.instantiable RX0 12 ∈ TB := tb_mem (tb_t1 (List.mem_of_getElem? (i := 23) rfl)) rfl
theorem tw_in_X2 : Cond.instantiable RX2 1 ∈ TB := tb_mem (tb_t1 (List.mem_of_getElem? (i := 29) rfl)) rfl
theorem tw_1_41 : Cond.arrayClass .int ∈ TB := tb_mem (tb_t1 (List.mem_of_getElem? (i := 41) rfl)) rfl
theorem tw_in_X1 : Cond.instantiable RX1 5 ∈ TB := tb_mem (tb_t1 (List.mem_of_getElem? (i := 90) rfl)) rfl
theorem tw_1_113 : Cond.arrayClass .byte ∈ TB := tb_mem (tb_t1 (List.mem_of_getElem? (i := 113) rfl)) rfl
theorem tw_in_X4 : Cond.instantiable RX4 21 ∈ TB := tb_mem (tb_t3 (List.mem_of_getElem? (i := 163) rfl)) rfl
theorem tw_3_236 : Cond.arrayClass .boolean ∈ TB := tb_mem (tb_t3 (List.mem_of_getElem? (i := 236) rfl)) rfl
theorem lb_X0_init : LkB yX0_init cX0_init 1 none 0 := ⟨tw_1_26, tw_1_2, by decide, by decide, by decide +kernel⟩
theorem lb_X0_begin : LkB yX0_begin cX0_begin 3 none 2 := ⟨tw_1_172, tw_1_2, by decide, by decide, by decide +kernel⟩
theorem lb_X0_copyFrom : LkB yX0_copyFrom cX0_copyFrom 2 none 1 := ⟨tw_2_87, tw_1_2, by decide, by decide, by decide +kernel⟩
theorem lb_X0_isFull : LkB yX0_isFull cX0_isFull 1 (some .boolean) 0 := ⟨tw_1_185, tw_1_2, by decide, by decide, by decide +kernel⟩
theorem lb_X0_addHolder : LkB yX0_addHolder cX0_addHolder 3 none 2 := ⟨tw_1_193, tw_1_2, by decide, by decide, by decide +kernel⟩
theorem lb_X0_hasHolder : LkB yX0_hasHolder cX0_hasHolder 2 (some .boolean) 1 := ⟨tw_2_232, tw_1_2, by decide, by decide, by decide +kernel⟩
theorem lb_X0_hasAll : LkB yX0_hasAll cX0_hasAll 2 (some .boolean) 1 := ⟨tw_2_109, tw_1_2, by decide, by decide, by decide +kernel⟩
theorem lb_X0_everyone : LkB yX0_everyone cX0_everyone 1 (some .int) 0 := ⟨tw_2_113, tw_1_2, by decide, by decide, by decide +kernel⟩
theorem lb_X0_kindOf : LkB yX0_kindOf cX0_kindOf 2 (some .int) 1 := ⟨tw_2_156, tw_1_2, by decide, by decide, by decide +kernel⟩
theorem lb_X0_extraOf : LkB yX0_extraOf cX0_extraOf 2 (some .int) 1 := ⟨tw_2_152, tw_1_2, by decide, by decide, by decide +kernel⟩
theorem lb_X0_factor : LkB yX0_factor cX0_factor 2 (some .int) 1 := ⟨tw_1_201, tw_1_2, by decide, by decide, by decide +kernel⟩
theorem lb_X0_putFactor : LkB yX0_putFactor cX0_putFactor 3 none 2 := ⟨tw_1_205, tw_1_2, by decide, by decide, by decide +kernel⟩
theorem lb_X0_shareOf : LkB yX0_shareOf cX0_shareOf 4 (some .int) 1 := ⟨tw_2_144, tw_1_2, by decide, by decide, by decide +kernel⟩
theorem lb_X0_wordOf : LkB yX0_wordOf cX0_wordOf 6 (some .int) 3 := ⟨tw_2_140, tw_1_2, by decide, by decide, by decide +kernel⟩
theorem lb_X0_putShares : LkB yX0_putShares cX0_putShares 4 none 2 := ⟨tw_3_12, tw_1_2, by decide, by decide, by decide +kernel⟩
theorem lb_X0_collect : LkB yX0_collect cX0_collect 6 none 3 := ⟨tw_2_129, tw_1_2, by decide, by decide, by decide +kernel⟩
theorem lb_X0_outcome : LkB yX0_outcome cX0_outcome 5 (some .int) 3 := ⟨tw_2_125, tw_1_2, by decide, by decide, by decide +kernel⟩
theorem lb_X0_passDay : LkB yX0_passDay cX0_passDay 4 (some .int) 2 := ⟨tw_2_121, tw_1_2, by decide, by decide, by decide +kernel⟩
theorem lb_X0_changeWay : LkB yX0_changeWay cX0_changeWay 5 (some .int) 1 := ⟨tw_2_201, tw_1_2, by decide, by decide, by decide +kernel⟩
theorem lb_X0_remember : LkB yX0_remember cX0_remember 2 none 0 := ⟨tw_2_117, tw_1_2, by decide, by decide, by decide +kernel⟩
theorem lb_X0_goBack : LkB yX0_goBack cX0_goBack 2 none 0 := ⟨tw_2_224, tw_1_2, by decide, by decide, by decide +kernel⟩
theorem lb_X0_mixInto : LkB yX0_mixInto cX0_mixInto 6 (some .long) 1 := ⟨tw_3_159, tw_1_2, by decide, by decide, by decide +kernel⟩
theorem lb_X0_countWrongTry : LkB yX0_countWrongTry cX0_countWrongTry 1 none 0 := ⟨tw_2_192, tw_1_2, by decide, by decide, by decide +kernel⟩
theorem lb_X0_isForgotten : LkB yX0_isForgotten cX0_isForgotten 3 (some .boolean) 2 := ⟨tw_2_159, tw_1_2, by decide, by decide, by decide +kernel⟩
theorem lb_X1_init : LkB yX1_init cX1_init 1 none 0 := ⟨tw_1_93, tw_1_5, by decide, by decide, by decide +kernel⟩
theorem lb_X1_append : LkB yX1_append cX1_append 2 none 1 := ⟨tw_1_213, tw_1_5, by decide, by decide, by decide +kernel⟩
theorem lb_X1_parseInto : LkB yX1_parseInto cX1_parseInto 4 (some .int) 1 := ⟨tw_1_225, tw_1_5, by decide, by decide, by decide +kernel⟩
theorem lb_X1_readSafeItem : LkB yX1_readSafeItem cX1_readSafeItem 4 (some .boolean) 1 := ⟨tw_1_229, tw_1_5, by decide, by decide, by decide +kernel⟩
theorem lb_X1_readOtherItem : LkB yX1_readOtherItem cX1_readOtherItem 2 (some .boolean) 1 := ⟨tw_2_70, tw_1_5, by decide, by decide, by decide +kernel⟩
theorem lb_X1_readWay : LkB yX1_readWay cX1_readWay 4 (some .boolean) 1 := ⟨tw_2_75, tw_1_5, by decide, by decide, by decide +kernel⟩
theorem lb_X1_readHolder : LkB yX1_readHolder cX1_readHolder 4 (some .boolean) 1 := ⟨tw_2_82, tw_1_5, by decide, by decide, by decide +kernel⟩
theorem lb_X1_nextIsStop : LkB yX1_nextIsStop cX1_nextIsStop 1 (some .boolean) 0 := ⟨tw_2_66, tw_1_5, by decide, by decide, by decide +kernel⟩
theorem lb_X1_nextNumber : LkB yX1_nextNumber cX1_nextNumber 5 (some .int) 2 := ⟨tw_2_60, tw_1_5, by decide, by decide, by decide +kernel⟩
theorem lb_X1_isWord : LkB yX1_isWord cX1_isWord 3 (some .boolean) 1 := ⟨tw_2_8, tw_1_5, by decide, by decide, by decide +kernel⟩
theorem lb_X1_nextToken : LkB yX1_nextToken cX1_nextToken 3 none 0 := ⟨tw_1_233, tw_1_5, by decide, by decide, by decide +kernel⟩
theorem lb_X1_byteAt : LkB yX1_byteAt cX1_byteAt 2 (some .int) 1 := ⟨tw_1_237, tw_1_5, by decide, by decide, by decide +kernel⟩
theorem lb_X1_isLong : LkB yX1_isLong cX1_isLong 1 (some .boolean) 1 := ⟨tw_2_3, tw_1_5, by decide, by decide, by decide +kernel⟩
theorem lb_X1_tokenBegunBy : LkB yX1_tokenBegunBy cX1_tokenBegunBy 1 (some .int) 1 := ⟨tw_2_0, tw_1_5, by decide, by decide, by decide +kernel⟩
theorem lb_X2_init : LkB yX2_init cX2_init 1 none 0 := ⟨tw_1_32, tw_1_3, by decide, by decide, by decide +kernel⟩
theorem lb_X2_empty : LkB yX2_empty cX2_empty 1 none 0 := ⟨tw_1_177, tw_1_3, by decide, by decide, by decide +kernel⟩
theorem lb_X2_put : LkB yX2_put cX2_put 3 none 2 := ⟨tw_2_166, tw_1_3, by decide, by decide, by decide +kernel⟩
theorem lb_X2_numberAt : LkB yX2_numberAt cX2_numberAt 2 (some .int) 1 := ⟨tw_2_101, tw_1_3, by decide, by decide, by decide +kernel⟩
theorem lb_X2_size : LkB yX2_size cX2_size 1 (some .int) 0 := ⟨tw_3_37, tw_1_3, by decide, by decide, by decide +kernel⟩
theorem lb_X2_copyWithout : LkB yX2_copyWithout cX2_copyWithout 4 none 2 := ⟨tw_2_94, tw_1_3, by decide, by decide, by decide +kernel⟩
theorem lb_X2_foundBy : LkB yX2_foundBy cX2_foundBy 3 (some .int) 1 := ⟨tw_2_170, tw_1_3, by decide, by decide, by decide +kernel⟩
theorem lb_X2_agreesBy : LkB yX2_agreesBy cX2_agreesBy 4 (some .boolean) 1 := ⟨tw_3_50, tw_1_3, by decide, by decide, by decide +kernel⟩
theorem lb_X2_liarBits : LkB yX2_liarBits cX2_liarBits 7 (some .int) 2 := ⟨tw_3_58, tw_1_3, by decide, by decide, by decide +kernel⟩
theorem lb_X2_bits : LkB yX2_bits cX2_bits 3 (some .int) 0 := ⟨tw_3_41, tw_1_3, by decide, by decide, by decide +kernel⟩
theorem lb_X2_firstBits : LkB yX2_firstBits cX2_firstBits 5 (some .int) 1 := ⟨tw_2_174, tw_1_3, by decide, by decide, by decide +kernel⟩
theorem lb_X2_valueAt : LkB yX2_valueAt cX2_valueAt 5 (some .int) 2 := ⟨tw_2_178, tw_1_3, by decide, by decide, by decide +kernel⟩
theorem lb_X2_weight : LkB yX2_weight cX2_weight 6 (some .int) 3 := ⟨tw_2_182, tw_1_3, by decide, by decide, by decide +kernel⟩
theorem lb_X2_inverse : LkB yX2_inverse cX2_inverse 2 (some .int) 1 := ⟨tw_2_186, tw_1_3, by decide, by decide, by decide +kernel⟩
theorem lb_X3_init : LkB yX3_init cX3_init 1 none 0 := ⟨tw_1_18, tw_1_1, by decide, by decide, by decide +kernel⟩
theorem lb_X3_safe : LkB yX3_safe cX3_safe 4 (some .int) 2 := ⟨tw_1_157, tw_1_1, by decide, by decide, by decide +kernel⟩
theorem lb_X3_holder : LkB yX3_holder cX3_holder 3 (some .int) 2 := ⟨tw_1_181, tw_1_1, by decide, by decide, by decide +kernel⟩
theorem lb_X3_way : LkB yX3_way cX3_way 4 (some .int) 2 := ⟨tw_1_197, tw_1_1, by decide, by decide, by decide +kernel⟩
theorem lb_X3_type : LkB yX3_type cX3_type 2 (some .int) 1 := ⟨tw_1_209, tw_1_1, by decide, by decide, by decide +kernel⟩
theorem lb_X3_clear : LkB yX3_clear cX3_clear 2 (some .int) 0 := ⟨tw_1_217, tw_1_1, by decide, by decide, by decide +kernel⟩
theorem lb_X3_read : LkB yX3_read cX3_read 2 (some .int) 0 := ⟨tw_1_221, tw_1_1, by decide, by decide, by decide +kernel⟩
theorem lb_X3_day : LkB yX3_day cX3_day 2 (some .int) 1 := ⟨tw_2_105, tw_1_1, by decide, by decide, by decide +kernel⟩
theorem lb_X3_change : LkB yX3_change cX3_change 2 (some .int) 1 := ⟨tw_2_196, tw_1_1, by decide, by decide, by decide +kernel⟩
theorem lb_X3_undo : LkB yX3_undo cX3_undo 1 (some .int) 0 := ⟨tw_2_216, tw_1_1, by decide, by decide, by decide +kernel⟩
theorem lb_X3_of : LkB yX3_of cX3_of 3 (some .int) 2 := ⟨tw_2_228, tw_1_1, by decide, by decide, by decide +kernel⟩
theorem lb_X3_tells : LkB yX3_tells cX3_tells 4 (some .int) 3 := ⟨tw_2_239, tw_1_1, by decide, by decide, by decide +kernel⟩
theorem lb_X3_finds : LkB yX3_finds cX3_finds 2 (some .int) 1 := ⟨tw_3_7, tw_1_1, by decide, by decide, by decide +kernel⟩
theorem lb_X3_knows : LkB yX3_knows cX3_knows 2 (some .int) 1 := ⟨tw_3_17, tw_1_1, by decide, by decide, by decide +kernel⟩
theorem lb_X3_comes : LkB yX3_comes cX3_comes 3 (some .int) 2 := ⟨tw_3_22, tw_1_1, by decide, by decide, by decide +kernel⟩
theorem lb_X3_tell : LkB yX3_tell cX3_tell 4 (some .int) 2 := ⟨tw_3_27, tw_1_1, by decide, by decide, by decide +kernel⟩
theorem lb_X3_forget : LkB yX3_forget cX3_forget 2 (some .int) 0 := ⟨tw_3_33, tw_1_1, by decide, by decide, by decide +kernel⟩
theorem lb_X3_agree : LkB yX3_agree cX3_agree 1 (some .int) 0 := ⟨tw_3_46, tw_1_1, by decide, by decide, by decide +kernel⟩
theorem lb_X3_liars : LkB yX3_liars cX3_liars 1 (some .int) 0 := ⟨tw_3_54, tw_1_1, by decide, by decide, by decide +kernel⟩
theorem lb_X3_guess : LkB yX3_guess cX3_guess 2 (some .int) 0 := ⟨tw_3_64, tw_1_1, by decide, by decide, by decide +kernel⟩
theorem lb_X3_mixed : LkB yX3_mixed cX3_mixed 4 (some .int) 3 := ⟨tw_3_69, tw_1_1, by decide, by decide, by decide +kernel⟩
theorem lb_X3_odds : LkB yX3_odds cX3_odds 8 (some .int) 1 := ⟨tw_3_84, tw_1_1, by decide, by decide, by decide +kernel⟩
theorem lb_X3_best : LkB yX3_best cX3_best 9 (some .int) 2 := ⟨tw_3_97, tw_1_1, by decide, by decide, by decide +kernel⟩
theorem lb_X3_must : LkB yX3_must cX3_must 5 (some .int) 1 := ⟨tw_3_101, tw_1_1, by decide, by decide, by decide +kernel⟩
theorem lb_X3_cars : LkB yX3_cars cX3_cars 5 (some .int) 2 := ⟨tw_3_106, tw_1_1, by decide, by decide, by decide +kernel⟩
theorem lb_X3_envelope : LkB yX3_envelope cX3_envelope 7 (some .int) 2 := ⟨tw_3_114, tw_1_1, by decide, by decide, by decide +kernel⟩
theorem lb_X3_days : LkB yX3_days cX3_days 10 (some .int) 3 := ⟨tw_3_123, tw_1_1, by decide, by decide, by decide +kernel⟩
theorem lb_X3_part : LkB yX3_part cX3_part 2 (some .long) 1 := ⟨tw_3_129, tw_1_1, by decide, by decide, by decide +kernel⟩
theorem lb_X3_image : LkB yX3_image cX3_image 2 (some .int) 1 := ⟨tw_3_133, tw_1_1, by decide, by decide, by decide +kernel⟩
theorem lb_X3_from : LkB yX3_from cX3_from 2 (some .int) 1 := ⟨tw_3_137, tw_1_1, by decide, by decide, by decide +kernel⟩
theorem lb_X3_status : LkB yX3_status cX3_status 2 (some .int) 1 := ⟨tw_3_141, tw_1_1, by decide, by decide, by decide +kernel⟩
theorem lb_X3_count : LkB yX3_count cX3_count 2 (some .int) 1 := ⟨tw_3_145, tw_1_1, by decide, by decide, by decide +kernel⟩
theorem lb_X3_digest : LkB yX3_digest cX3_digest 4 (some .long) 0 := ⟨tw_3_153, tw_1_1, by decide, by decide, by decide +kernel⟩
theorem lb_X3_refuseBad : LkB yX3_refuseBad cX3_refuseBad 1 (some .int) 0 := ⟨tw_1_164, tw_1_1, by decide, by decide, by decide +kernel⟩
theorem lb_X3_refuseBadAs : LkB yX3_refuseBadAs cX3_refuseBadAs 2 (some .int) 1 := ⟨tw_1_168, tw_1_1, by decide, by decide, by decide +kernel⟩
theorem lb_X3_refuseNo : LkB yX3_refuseNo cX3_refuseNo 1 (some .int) 0 := ⟨tw_2_220, tw_1_1, by decide, by decide, by decide +kernel⟩
theorem lb_X3_refuseFull : LkB yX3_refuseFull cX3_refuseFull 1 (some .int) 0 := ⟨tw_1_189, tw_1_1, by decide, by decide, by decide +kernel⟩
theorem lb_X3_amount : LkB yX3_amount cX3_amount 2 (some .int) 1 := ⟨tw_3_149, tw_1_1, by decide, by decide, by decide +kernel⟩
theorem lb_X3_imageAt : LkB yX3_imageAt cX3_imageAt 2 (some (.object "SafeShares$Safe")) 1 := ⟨tw_3_80, tw_1_1, by decide, by decide, by decide +kernel⟩
theorem lb_X3_isKept : LkB yX3_isKept cX3_isKept 2 (some .boolean) 1 := ⟨tw_3_76, tw_1_1, by decide, by decide, by decide +kernel⟩
theorem lb_X3_isSafeParting : LkB yX3_isSafeParting cX3_isSafeParting 3 (some .boolean) 1 := ⟨tw_3_110, tw_1_1, by decide, by decide, by decide +kernel⟩
theorem lb_X3_envelopeDays : LkB yX3_envelopeDays cX3_envelopeDays 5 (some .int) 2 := ⟨tw_3_118, tw_1_1, by decide, by decide, by decide +kernel⟩
theorem lb_X3_isWithin : LkB yX3_isWithin cX3_isWithin 3 (some .boolean) 3 := ⟨tw_1_160, tw_1_1, by decide, by decide, by decide +kernel⟩
theorem lb_X3_isDay : LkB yX3_isDay cX3_isDay 1 (some .boolean) 1 := ⟨tw_3_2, tw_1_1, by decide, by decide, by decide +kernel⟩
theorem lb_X3_isImage : LkB yX3_isImage cX3_isImage 1 (some .boolean) 1 := ⟨tw_3_72, tw_1_1, by decide, by decide, by decide +kernel⟩
theorem lb_X3_isIn : LkB yX3_isIn cX3_isIn 2 (some .boolean) 2 := ⟨tw_2_97, tw_1_1, by decide, by decide, by decide +kernel⟩
theorem lb_X3_leftOver : LkB yX3_leftOver cX3_leftOver 2 (some .int) 1 := ⟨tw_2_148, tw_1_1, by decide, by decide, by decide +kernel⟩
theorem lb_X3_nextX : LkB yX3_nextX cX3_nextX 2 (some .long) 1 := ⟨tw_2_204, tw_1_1, by decide, by decide, by decide +kernel⟩
theorem lb_X3_drawn : LkB yX3_drawn cX3_drawn 3 (some .int) 2 := ⟨tw_2_210, tw_1_1, by decide, by decide, by decide +kernel⟩
theorem lb_X3_power : LkB yX3_power cX3_power 5 (some .long) 2 := ⟨tw_3_90, tw_1_1, by decide, by decide, by decide +kernel⟩
theorem lb_X3_partsWithAtLeast : LkB yX3_partsWithAtLeast cX3_partsWithAtLeast 7 (some .long) 3 := ⟨tw_3_87, tw_1_1, by decide, by decide, by decide +kernel⟩
theorem lb_X3_commonDivisor : LkB yX3_commonDivisor cX3_commonDivisor 11 (some .long) 2 := ⟨tw_3_93, tw_1_1, by decide, by decide, by decide +kernel⟩
theorem lb_X4_init : LkB yX4_init cX4_init 1 none 0 := ⟨tw_3_166, tw_1_6, by decide, by decide, by decide +kernel⟩
theorem lb_X4_in : LkB yX4_in cX4_in 6 (some .boolean) 3 := ⟨tw_4_4, tw_1_6, by decide, by decide, by decide +kernel⟩
theorem lb_X4_has : LkB yX4_has cX4_has 2 (some .boolean) 2 := ⟨tw_4_98, tw_1_6, by decide, by decide, by decide +kernel⟩
theorem lb_X4_ones : LkB yX4_ones cX4_ones 3 (some .int) 1 := ⟨tw_4_95, tw_1_6, by decide, by decide, by decide +kernel⟩
theorem lb_X4_bad : LkB yX4_bad cX4_bad 1 (some .int) 0 := ⟨tw_4_9, tw_1_6, by decide, by decide, by decide +kernel⟩
theorem lb_X4_no : LkB yX4_no cX4_no 1 (some .int) 0 := ⟨tw_4_142, tw_1_6, by decide, by decide, by decide +kernel⟩
theorem lb_X4_full : LkB yX4_full cX4_full 1 (some .int) 0 := ⟨tw_4_18, tw_1_6, by decide, by decide, by decide +kernel⟩
theorem lb_X4_isWhat : LkB yX4_isWhat cX4_isWhat 1 (some .boolean) 1 := ⟨tw_4_213, tw_1_6, by decide, by decide, by decide +kernel⟩
theorem lb_X4_isHolder : LkB yX4_isHolder cX4_isHolder 2 (some .boolean) 1 := ⟨tw_4_150, tw_1_6, by decide, by decide, by decide +kernel⟩
theorem lb_X4_areHolders : LkB yX4_areHolders cX4_areHolders 2 (some .boolean) 1 := ⟨tw_4_76, tw_1_6, by decide, by decide, by decide +kernel⟩
theorem lb_X4_everybody : LkB yX4_everybody cX4_everybody 1 (some .int) 0 := ⟨tw_4_226, tw_1_6, by decide, by decide, by decide +kernel⟩
theorem lb_X4_anew : LkB yX4_anew cX4_anew 4 none 2 := ⟨tw_3_171, tw_1_6, by decide, by decide, by decide +kernel⟩
theorem lb_X4_safe : LkB yX4_safe cX4_safe 4 (some .int) 2 := ⟨tw_4_0, tw_1_6, by decide, by decide, by decide +kernel⟩
theorem lb_X4_add : LkB yX4_add cX4_add 3 none 2 := ⟨tw_4_22, tw_1_6, by decide, by decide, by decide +kernel⟩
theorem lb_X4_holder : LkB yX4_holder cX4_holder 3 (some .int) 2 := ⟨tw_4_13, tw_1_6, by decide, by decide, by decide +kernel⟩
theorem lb_X4_way : LkB yX4_way cX4_way 4 (some .int) 2 := ⟨tw_4_26, tw_1_6, by decide, by decide, by decide +kernel⟩
theorem lb_X4_type : LkB yX4_type cX4_type 2 (some .int) 1 := ⟨tw_4_31, tw_1_6, by decide, by decide, by decide +kernel⟩
theorem lb_X4_clear : LkB yX4_clear cX4_clear 2 (some .int) 0 := ⟨tw_4_36, tw_1_6, by decide, by decide, by decide +kernel⟩
theorem lb_X4_byteAt : LkB yX4_byteAt cX4_byteAt 2 (some .int) 1 := ⟨tw_4_52, tw_1_6, by decide, by decide, by decide +kernel⟩
theorem lb_X4_nextToken : LkB yX4_nextToken cX4_nextToken 1 none 0 := ⟨tw_4_48, tw_1_6, by decide, by decide, by decide +kernel⟩
theorem lb_X4_isWord : LkB yX4_isWord cX4_isWord 9 (some .boolean) 6 := ⟨tw_4_64, tw_1_6, by decide, by decide, by decide +kernel⟩
theorem lb_X4_reads : LkB yX4_reads cX4_reads 4 (some .boolean) 3 := ⟨tw_4_68, tw_1_6, by decide, by decide, by decide +kernel⟩
theorem lb_X4_readItem : LkB yX4_readItem cX4_readItem 4 (some .boolean) 2 := ⟨tw_4_60, tw_1_6, by decide, by decide, by decide +kernel⟩
theorem lb_X4_readText : LkB yX4_readText cX4_readText 3 (some .int) 1 := ⟨tw_4_44, tw_1_6, by decide, by decide, by decide +kernel⟩
theorem lb_X4_read : LkB yX4_read cX4_read 1 (some .int) 0 := ⟨tw_4_40, tw_1_6, by decide, by decide, by decide +kernel⟩
theorem lb_X4_shareOf : LkB yX4_shareOf cX4_shareOf 8 (some .int) 3 := ⟨tw_4_102, tw_1_6, by decide, by decide, by decide +kernel⟩
theorem lb_X4_toldOf : LkB yX4_toldOf cX4_toldOf 8 (some .int) 4 := ⟨tw_4_106, tw_1_6, by decide, by decide, by decide +kernel⟩
theorem lb_X4_inverse : LkB yX4_inverse cX4_inverse 3 (some .int) 1 := ⟨tw_4_121, tw_1_6, by decide, by decide, by decide +kernel⟩
theorem lb_X4_pointMany : LkB yX4_pointMany cX4_pointMany 3 (some .int) 0 := ⟨tw_4_114, tw_1_6, by decide, by decide, by decide +kernel⟩
theorem lb_X4_valueAt : LkB yX4_valueAt cX4_valueAt 9 (some .int) 1 := ⟨tw_4_118, tw_1_6, by decide, by decide, by decide +kernel⟩
theorem lb_X4_found : LkB yX4_found cX4_found 1 (some .int) 0 := ⟨tw_4_110, tw_1_6, by decide, by decide, by decide +kernel⟩
theorem lb_X4_agrees : LkB yX4_agrees cX4_agrees 3 (some .boolean) 0 := ⟨tw_4_194, tw_1_6, by decide, by decide, by decide +kernel⟩
theorem lb_X4_tellAll : LkB yX4_tellAll cX4_tellAll 5 none 2 := ⟨tw_4_92, tw_1_6, by decide, by decide, by decide +kernel⟩
theorem lb_X4_triedBy : LkB yX4_triedBy cX4_triedBy 4 (some .int) 2 := ⟨tw_4_88, tw_1_6, by decide, by decide, by decide +kernel⟩
theorem lb_X4_note : LkB yX4_note cX4_note 2 none 0 := ⟨tw_4_80, tw_1_6, by decide, by decide, by decide +kernel⟩
theorem lb_X4_oneDay : LkB yX4_oneDay cX4_oneDay 3 (some .int) 1 := ⟨tw_4_84, tw_1_6, by decide, by decide, by decide +kernel⟩
theorem lb_X4_day : LkB yX4_day cX4_day 2 (some .int) 1 := ⟨tw_4_72, tw_1_6, by decide, by decide, by decide +kernel⟩
theorem lb_X4_draw : LkB yX4_draw cX4_draw 2 (some .int) 1 := ⟨tw_4_130, tw_1_6, by decide, by decide, by decide +kernel⟩
theorem lb_X4_change : LkB yX4_change cX4_change 3 (some .int) 1 := ⟨tw_4_125, tw_1_6, by decide, by decide, by decide +kernel⟩
theorem lb_X4_undo : LkB yX4_undo cX4_undo 2 (some .int) 0 := ⟨tw_4_138, tw_1_6, by decide, by decide, by decide +kernel⟩
theorem lb_X4_of : LkB yX4_of cX4_of 3 (some .int) 2 := ⟨tw_4_146, tw_1_6, by decide, by decide, by decide +kernel⟩
theorem lb_X4_tells : LkB yX4_tells cX4_tells 4 (some .int) 3 := ⟨tw_4_155, tw_1_6, by decide, by decide, by decide +kernel⟩
theorem lb_X4_finds : LkB yX4_finds cX4_finds 3 (some .int) 1 := ⟨tw_4_161, tw_1_6, by decide, by decide, by decide +kernel⟩
theorem lb_X4_knows : LkB yX4_knows cX4_knows 2 (some .int) 1 := ⟨tw_4_165, tw_1_6, by decide, by decide, by decide +kernel⟩
theorem lb_X4_comes : LkB yX4_comes cX4_comes 3 (some .int) 2 := ⟨tw_4_169, tw_1_6, by decide, by decide, by decide +kernel⟩
theorem lb_X4_tell : LkB yX4_tell cX4_tell 4 (some .int) 2 := ⟨tw_4_173, tw_1_6, by decide, by decide, by decide +kernel⟩
theorem lb_X4_toldMany : LkB yX4_toldMany cX4_toldMany 3 (some .int) 0 := ⟨tw_4_182, tw_1_6, by decide, by decide, by decide +kernel⟩
theorem lb_X4_forget : LkB yX4_forget cX4_forget 3 (some .int) 0 := ⟨tw_4_178, tw_1_6, by decide, by decide, by decide +kernel⟩
theorem lb_X4_takeTold : LkB yX4_takeTold cX4_takeTold 3 none 1 := ⟨tw_4_190, tw_1_6, by decide, by decide, by decide +kernel⟩
theorem lb_X4_agree : LkB yX4_agree cX4_agree 1 (some .int) 0 := ⟨tw_4_186, tw_1_6, by decide, by decide, by decide +kernel⟩
theorem lb_X4_findLiars : LkB yX4_findLiars cX4_findLiars 5 (some .int) 0 := ⟨tw_4_202, tw_1_6, by decide, by decide, by decide +kernel⟩
theorem lb_X4_liars : LkB yX4_liars cX4_liars 1 (some .int) 0 := ⟨tw_4_198, tw_1_6, by decide, by decide, by decide +kernel⟩
theorem lb_X4_guess : LkB yX4_guess cX4_guess 2 (some .int) 0 := ⟨tw_4_206, tw_1_6, by decide, by decide, by decide +kernel⟩
theorem lb_X4_mixed : LkB yX4_mixed cX4_mixed 5 (some .int) 3 := ⟨tw_4_210, tw_1_6, by decide, by decide, by decide +kernel⟩
theorem lb_X4_atLeast : LkB yX4_atLeast cX4_atLeast 9 (some .long) 2 := ⟨tw_4_222, tw_1_6, by decide, by decide, by decide +kernel⟩
theorem lb_X4_setFraction : LkB yX4_setFraction cX4_setFraction 11 none 2 := ⟨tw_4_230, tw_1_6, by decide, by decide, by decide +kernel⟩
theorem lb_X4_odds : LkB yX4_odds cX4_odds 2 (some .int) 1 := ⟨tw_4_217, tw_1_6, by decide, by decide, by decide +kernel⟩
theorem lb_X4_best : LkB yX4_best cX4_best 7 (some .int) 2 := ⟨tw_4_234, tw_1_6, by decide, by decide, by decide +kernel⟩
theorem lb_X4_must : LkB yX4_must cX4_must 4 (some .int) 1 := ⟨tw_4_238, tw_1_6, by decide, by decide, by decide +kernel⟩
theorem lb_X4_isParting : LkB yX4_isParting cX4_isParting 2 (some .boolean) 1 := ⟨tw_5_6, tw_1_6, by decide, by decide, by decide +kernel⟩
theorem lb_X4_cars : LkB yX4_cars cX4_cars 5 (some .int) 2 := ⟨tw_5_2, tw_1_6, by decide, by decide, by decide +kernel⟩
theorem lb_X4_envelope : LkB yX4_envelope cX4_envelope 8 (some .int) 2 := ⟨tw_5_10, tw_1_6, by decide, by decide, by decide +kernel⟩
theorem lb_X4_days : LkB yX4_days cX4_days 11 (some .int) 3 := ⟨tw_5_15, tw_1_6, by decide, by decide, by decide +kernel⟩
theorem lb_X4_part : LkB yX4_part cX4_part 2 (some .long) 1 := ⟨tw_5_21, tw_1_6, by decide, by decide, by decide +kernel⟩
theorem lb_X4_image : LkB yX4_image cX4_image 3 (some .int) 1 := ⟨tw_5_25, tw_1_6, by decide, by decide, by decide +kernel⟩
theorem lb_X4_from : LkB yX4_from cX4_from 3 (some .int) 1 := ⟨tw_5_29, tw_1_6, by decide, by decide, by decide +kernel⟩
theorem lb_X4_status : LkB yX4_status cX4_status 2 (some .int) 1 := ⟨tw_5_33, tw_1_6, by decide, by decide, by decide +kernel⟩
theorem lb_X4_countOf : LkB yX4_countOf cX4_countOf 2 (some .int) 1 := ⟨tw_5_42, tw_1_6, by decide, by decide, by decide +kernel⟩
theorem lb_X4_count : LkB yX4_count cX4_count 2 (some .int) 1 := ⟨tw_5_37, tw_1_6, by decide, by decide, by decide +kernel⟩
theorem lb_X4_digest : LkB yX4_digest cX4_digest 4 (some .long) 0 := ⟨tw_5_46, tw_1_6, by decide, by decide, by decide +kernel⟩
theorem lb_J6_bitCount_0f7a4 : LkB yJ6_bitCount_0f7a4 cJ6_bitCount_0f7a4 1 (some .int) 1 := ⟨tw_2_132, tw_1_12, by decide, by decide, by decide +kernel⟩
theorem lb_J9_floorMod_7cf53 : LkB yJ9_floorMod_7cf53 cJ9_floorMod_7cf53 3 (some .int) 2 := ⟨tw_2_162, tw_1_13, by decide, by decide, by decide +kernel⟩
theorem lb_J0_length_8abf5 : LkB yJ0_length_8abf5 cJ0_length_8abf5 1 (some .int) 0 := ⟨tw_2_12, tw_1_7, by decide, by decide, by decide +kernel⟩
theorem lb_J0_charAt_5068e : LkB yJ0_charAt_5068e cJ0_charAt_5068e 2 (some .char) 1 := ⟨tw_2_22, tw_1_7, by decide, by decide, by decide +kernel⟩
theorem lb_J0_coder_7d493 : LkB yJ0_coder_7d493 cJ0_coder_7d493 1 (some .byte) 0 := ⟨tw_2_16, tw_1_7, by decide, by decide, by decide +kernel⟩
theorem lb_J0_isLatin1_aae02 : LkB yJ0_isLatin1_aae02 cJ0_isLatin1_aae02 1 (some .boolean) 0 := ⟨tw_2_26, tw_1_7, by decide, by decide, by decide +kernel⟩
theorem lb_J0_checkIndex_df160 : LkB yJ0_checkIndex_df160 cJ0_checkIndex_df160 2 none 2 := ⟨tw_2_32, tw_1_7, by decide, by decide, by decide +kernel⟩
theorem lb_J1_charAt_3b067 : LkB yJ1_charAt_3b067 cJ1_charAt_3b067 2 (some .char) 2 := ⟨tw_2_29, tw_1_8, by decide, by decide, by decide +kernel⟩
theorem lb_J2_getChar_3b067 : LkB yJ2_getChar_3b067 cJ2_getChar_3b067 2 (some .char) 2 := ⟨tw_2_50, tw_1_10, by decide, by decide, by decide +kernel⟩
theorem lb_J2_length_9d52b : LkB yJ2_length_9d52b cJ2_length_9d52b 1 (some .int) 1 := ⟨tw_2_46, tw_1_10, by decide, by decide, by decide +kernel⟩
theorem lb_J2_charAt_3b067 : LkB yJ2_charAt_3b067 cJ2_charAt_3b067 2 (some .char) 2 := ⟨tw_2_40, tw_1_10, by decide, by decide, by decide +kernel⟩
theorem lb_J2_checkIndex_2214a : LkB yJ2_checkIndex_2214a cJ2_checkIndex_2214a 2 none 2 := ⟨tw_2_43, tw_1_10, by decide, by decide, by decide +kernel⟩
theorem lb_J7_fill_53178 : LkB yJ7_fill_53178 cJ7_fill_53178 4 none 2 := ⟨tw_1_36, tw_1_4, by decide, by decide, by decide +kernel⟩
theorem lb_J3_checkIndex_8e157 : LkB yJ3_checkIndex_8e157 cJ3_checkIndex_8e157 3 (some .int) 3 := ⟨tw_2_37, tw_1_9, by decide, by decide, by decide +kernel⟩
theorem ts_X3_refuseBad : Cond.selects RX3 yX3_refuseBad yX3_refuseBad ∈ TB := tb_mem (tb_t0 (List.mem_of_getElem? (i := 0) rfl)) rfl
theorem ts_X3_refuseBadAs : Cond.selects RX3 yX3_refuseBadAs yX3_refuseBadAs ∈ TB := tb_mem (tb_t0 (List.mem_of_getElem? (i := 1) rfl)) rfl
theorem ts_X3_refuseFull : Cond.selects RX3 yX3_refuseFull yX3_refuseFull ∈ TB := tb_mem (tb_t0 (List.mem_of_getElem? (i := 2) rfl)) rfl
theorem ts_X1_readSafeItem : Cond.selects RX1 yX1_readSafeItem yX1_readSafeItem ∈ TB := tb_mem (tb_t0 (List.mem_of_getElem? (i := 3) rfl)) rfl
theorem ts_X1_nextToken : Cond.selects RX1 yX1_nextToken yX1_nextToken ∈ TB := tb_mem (tb_t0 (List.mem_of_getElem? (i := 4) rfl)) rfl
theorem ts_X1_byteAt : Cond.selects RX1 yX1_byteAt yX1_byteAt ∈ TB := tb_mem (tb_t0 (List.mem_of_getElem? (i := 5) rfl)) rfl
theorem ts_X1_isWord : Cond.selects RX1 yX1_isWord yX1_isWord ∈ TB := tb_mem (tb_t0 (List.mem_of_getElem? (i := 6) rfl)) rfl
theorem ts_X1_nextNumber : Cond.selects RX1 yX1_nextNumber yX1_nextNumber ∈ TB := tb_mem (tb_t0 (List.mem_of_getElem? (i := 7) rfl)) rfl
theorem ts_X1_nextIsStop : Cond.selects RX1 yX1_nextIsStop yX1_nextIsStop ∈ TB := tb_mem (tb_t0 (List.mem_of_getElem? (i := 8) rfl)) rfl
theorem ts_X1_readOtherItem : Cond.selects RX1 yX1_readOtherItem yX1_readOtherItem ∈ TB := tb_mem (tb_t0 (List.mem_of_getElem? (i := 9) rfl)) rfl
theorem ts_X1_readWay : Cond.selects RX1 yX1_readWay yX1_readWay ∈ TB := tb_mem (tb_t0 (List.mem_of_getElem? (i := 10) rfl)) rfl
theorem ts_X1_readHolder : Cond.selects RX1 yX1_readHolder yX1_readHolder ∈ TB := tb_mem (tb_t0 (List.mem_of_getElem? (i := 11) rfl)) rfl
theorem ts_X2_firstBits : Cond.selects RX2 yX2_firstBits yX2_firstBits ∈ TB := tb_mem (tb_t0 (List.mem_of_getElem? (i := 12) rfl)) rfl
theorem ts_X2_valueAt : Cond.selects RX2 yX2_valueAt yX2_valueAt ∈ TB := tb_mem (tb_t0 (List.mem_of_getElem? (i := 13) rfl)) rfl
theorem ts_X2_weight : Cond.selects RX2 yX2_weight yX2_weight ∈ TB := tb_mem (tb_t0 (List.mem_of_getElem? (i := 14) rfl)) rfl
theorem ts_X0_countWrongTry : Cond.selects RX0 yX0_countWrongTry yX0_countWrongTry ∈ TB := tb_mem (tb_t0 (List.mem_of_getElem? (i := 15) rfl)) rfl
theorem ts_X3_refuseNo : Cond.selects RX3 yX3_refuseNo yX3_refuseNo ∈ TB := tb_mem (tb_t0 (List.mem_of_getElem? (i := 16) rfl)) rfl
theorem ts_X2_bits : Cond.selects RX2 yX2_bits yX2_bits ∈ TB := tb_mem (tb_t0 (List.mem_of_getElem? (i := 17) rfl)) rfl
theorem ts_X3_isKept : Cond.selects RX3 yX3_isKept yX3_isKept ∈ TB := tb_mem (tb_t0 (List.mem_of_getElem? (i := 18) rfl)) rfl
theorem ts_X3_imageAt : Cond.selects RX3 yX3_imageAt yX3_imageAt ∈ TB := tb_mem (tb_t0 (List.mem_of_getElem? (i := 19) rfl)) rfl
theorem ts_X3_isSafeParting : Cond.selects RX3 yX3_isSafeParting yX3_isSafeParting ∈ TB := tb_mem (tb_t0 (List.mem_of_getElem? (i := 20) rfl)) rfl
theorem ts_X3_envelopeDays : Cond.selects RX3 yX3_envelopeDays yX3_envelopeDays ∈ TB := tb_mem (tb_t0 (List.mem_of_getElem? (i := 21) rfl)) rfl
theorem ts_X3_amount : Cond.selects RX3 yX3_amount yX3_amount ∈ TB := tb_mem (tb_t0 (List.mem_of_getElem? (i := 22) rfl)) rfl
theorem ts_X4_anew : Cond.selects RX4 yX4_anew yX4_anew ∈ TB := tb_mem (tb_t0 (List.mem_of_getElem? (i := 23) rfl)) rfl
theorem ts_X4_bad : Cond.selects RX4 yX4_bad yX4_bad ∈ TB := tb_mem (tb_t0 (List.mem_of_getElem? (i := 24) rfl)) rfl
theorem ts_X4_full : Cond.selects RX4 yX4_full yX4_full ∈ TB := tb_mem (tb_t0 (List.mem_of_getElem? (i := 25) rfl)) rfl
theorem ts_X4_add : Cond.selects RX4 yX4_add yX4_add ∈ TB := tb_mem (tb_t0 (List.mem_of_getElem? (i := 26) rfl)) rfl
theorem ts_X4_readText : Cond.selects RX4 yX4_readText yX4_readText ∈ TB := tb_mem (tb_t0 (List.mem_of_getElem? (i := 27) rfl)) rfl
theorem ts_X4_nextToken : Cond.selects RX4 yX4_nextToken yX4_nextToken ∈ TB := tb_mem (tb_t0 (List.mem_of_getElem? (i := 28) rfl)) rfl
theorem ts_X4_byteAt : Cond.selects RX4 yX4_byteAt yX4_byteAt ∈ TB := tb_mem (tb_t0 (List.mem_of_getElem? (i := 29) rfl)) rfl
theorem ts_X4_readItem : Cond.selects RX4 yX4_readItem yX4_readItem ∈ TB := tb_mem (tb_t0 (List.mem_of_getElem? (i := 30) rfl)) rfl
theorem ts_X4_isWord : Cond.selects RX4 yX4_isWord yX4_isWord ∈ TB := tb_mem (tb_t0 (List.mem_of_getElem? (i := 31) rfl)) rfl
theorem ts_X4_reads : Cond.selects RX4 yX4_reads yX4_reads ∈ TB := tb_mem (tb_t0 (List.mem_of_getElem? (i := 32) rfl)) rfl
theorem ts_X4_areHolders : Cond.selects RX4 yX4_areHolders yX4_areHolders ∈ TB := tb_mem (tb_t0 (List.mem_of_getElem? (i := 33) rfl)) rfl
theorem ts_X4_note : Cond.selects RX4 yX4_note yX4_note ∈ TB := tb_mem (tb_t0 (List.mem_of_getElem? (i := 34) rfl)) rfl
theorem ts_X4_oneDay : Cond.selects RX4 yX4_oneDay yX4_oneDay ∈ TB := tb_mem (tb_t0 (List.mem_of_getElem? (i := 35) rfl)) rfl
theorem ts_X4_triedBy : Cond.selects RX4 yX4_triedBy yX4_triedBy ∈ TB := tb_mem (tb_t0 (List.mem_of_getElem? (i := 36) rfl)) rfl
theorem ts_X4_tellAll : Cond.selects RX4 yX4_tellAll yX4_tellAll ∈ TB := tb_mem (tb_t0 (List.mem_of_getElem? (i := 37) rfl)) rfl
theorem ts_X4_shareOf : Cond.selects RX4 yX4_shareOf yX4_shareOf ∈ TB := tb_mem (tb_t0 (List.mem_of_getElem? (i := 38) rfl)) rfl
theorem ts_X4_toldOf : Cond.selects RX4 yX4_toldOf yX4_toldOf ∈ TB := tb_mem (tb_t0 (List.mem_of_getElem? (i := 39) rfl)) rfl
theorem ts_X4_found : Cond.selects RX4 yX4_found yX4_found ∈ TB := tb_mem (tb_t0 (List.mem_of_getElem? (i := 40) rfl)) rfl
theorem ts_X4_pointMany : Cond.selects RX4 yX4_pointMany yX4_pointMany ∈ TB := tb_mem (tb_t0 (List.mem_of_getElem? (i := 41) rfl)) rfl
theorem ts_X4_valueAt : Cond.selects RX4 yX4_valueAt yX4_valueAt ∈ TB := tb_mem (tb_t0 (List.mem_of_getElem? (i := 42) rfl)) rfl
theorem ts_X4_draw : Cond.selects RX4 yX4_draw yX4_draw ∈ TB := tb_mem (tb_t0 (List.mem_of_getElem? (i := 43) rfl)) rfl
theorem ts_X4_no : Cond.selects RX4 yX4_no yX4_no ∈ TB := tb_mem (tb_t0 (List.mem_of_getElem? (i := 44) rfl)) rfl
theorem ts_X4_isHolder : Cond.selects RX4 yX4_isHolder yX4_isHolder ∈ TB := tb_mem (tb_t0 (List.mem_of_getElem? (i := 45) rfl)) rfl
theorem ts_X4_toldMany : Cond.selects RX4 yX4_toldMany yX4_toldMany ∈ TB := tb_mem (tb_t0 (List.mem_of_getElem? (i := 46) rfl)) rfl
theorem ts_X4_takeTold : Cond.selects RX4 yX4_takeTold yX4_takeTold ∈ TB := tb_mem (tb_t0 (List.mem_of_getElem? (i := 47) rfl)) rfl
theorem ts_X4_agrees : Cond.selects RX4 yX4_agrees yX4_agrees ∈ TB := tb_mem (tb_t0 (List.mem_of_getElem? (i := 48) rfl)) rfl
theorem ts_X4_findLiars : Cond.selects RX4 yX4_findLiars yX4_findLiars ∈ TB := tb_mem (tb_t0 (List.mem_of_getElem? (i := 49) rfl)) rfl
theorem ts_X4_atLeast : Cond.selects RX4 yX4_atLeast yX4_atLeast ∈ TB := tb_mem (tb_t0 (List.mem_of_getElem? (i := 50) rfl)) rfl
theorem ts_X4_everybody : Cond.selects RX4 yX4_everybody yX4_everybody ∈ TB := tb_mem (tb_t0 (List.mem_of_getElem? (i := 51) rfl)) rfl
theorem ts_X4_setFraction : Cond.selects RX4 yX4_setFraction yX4_setFraction ∈ TB := tb_mem (tb_t0 (List.mem_of_getElem? (i := 52) rfl)) rfl
theorem ts_X4_isParting : Cond.selects RX4 yX4_isParting yX4_isParting ∈ TB := tb_mem (tb_t0 (List.mem_of_getElem? (i := 53) rfl)) rfl
theorem ts_X4_countOf : Cond.selects RX4 yX4_countOf yX4_countOf ∈ TB := tb_mem (tb_t0 (List.mem_of_getElem? (i := 54) rfl)) rfl
theorem lk_X2_15 : Cond.methodLink RX2 15 yJ7_fill_53178 ∈ TB ∧ Cond.static yJ7_fill_53178 ∈ TB := ⟨tw_1_34, tw_1_35⟩
theorem lk_L_13 : Cond.methodLink RL 13 yX3_safe ∈ TB ∧ Cond.instanceMethod yX3_safe ∈ TB ∧ Cond.selects RX3 yX3_safe yX3_safe ∈ TB := ⟨tw_1_154, tw_1_155, tw_1_156⟩
theorem lk_X3_63 : Cond.methodLink RX3 63 yX3_isWithin ∈ TB ∧ Cond.static yX3_isWithin ∈ TB := ⟨tw_1_158, tw_1_159⟩
theorem lk_X3_67 : Cond.methodLink RX3 67 yX3_refuseBad ∈ TB ∧ Cond.instanceMethod yX3_refuseBad ∈ TB ∧ Cond.selects RX3 yX3_refuseBad yX3_refuseBad ∈ TB := ⟨tw_1_161, tw_1_163, ts_X3_refuseBad⟩
theorem lk_X3_120 : Cond.methodLink RX3 120 yX3_refuseBadAs ∈ TB ∧ Cond.instanceMethod yX3_refuseBadAs ∈ TB ∧ Cond.selects RX3 yX3_refuseBadAs yX3_refuseBadAs ∈ TB := ⟨tw_1_165, tw_1_167, ts_X3_refuseBadAs⟩
theorem lk_X3_74 : Cond.methodLink RX3 74 yX0_begin ∈ TB ∧ Cond.instanceMethod yX0_begin ∈ TB ∧ Cond.selects RX0 yX0_begin yX0_begin ∈ TB := ⟨tw_1_169, tw_1_170, tw_1_171⟩
theorem lk_X0_54 : Cond.methodLink RX0 54 yJ7_fill_53178 ∈ TB ∧ Cond.static yJ7_fill_53178 ∈ TB := ⟨tw_1_173, tw_1_35⟩
theorem lk_X0_60 : Cond.methodLink RX0 60 yX2_empty ∈ TB ∧ Cond.instanceMethod yX2_empty ∈ TB ∧ Cond.selects RX2 yX2_empty yX2_empty ∈ TB := ⟨tw_1_174, tw_1_175, tw_1_176⟩
theorem lk_L_18 : Cond.methodLink RL 18 yX3_holder ∈ TB ∧ Cond.instanceMethod yX3_holder ∈ TB ∧ Cond.selects RX3 yX3_holder yX3_holder ∈ TB := ⟨tw_1_178, tw_1_179, tw_1_180⟩
theorem lk_X3_78 : Cond.methodLink RX3 78 yX0_isFull ∈ TB ∧ Cond.instanceMethod yX0_isFull ∈ TB ∧ Cond.selects RX0 yX0_isFull yX0_isFull ∈ TB := ⟨tw_1_182, tw_1_183, tw_1_184⟩
theorem lk_X3_82 : Cond.methodLink RX3 82 yX3_refuseFull ∈ TB ∧ Cond.instanceMethod yX3_refuseFull ∈ TB ∧ Cond.selects RX3 yX3_refuseFull yX3_refuseFull ∈ TB := ⟨tw_1_186, tw_1_188, ts_X3_refuseFull⟩
theorem lk_X3_85 : Cond.methodLink RX3 85 yX0_addHolder ∈ TB ∧ Cond.instanceMethod yX0_addHolder ∈ TB ∧ Cond.selects RX0 yX0_addHolder yX0_addHolder ∈ TB := ⟨tw_1_190, tw_1_191, tw_1_192⟩
theorem lk_L_22 : Cond.methodLink RL 22 yX3_way ∈ TB ∧ Cond.instanceMethod yX3_way ∈ TB ∧ Cond.selects RX3 yX3_way yX3_way ∈ TB := ⟨tw_1_194, tw_1_195, tw_1_196⟩
theorem lk_X3_91 : Cond.methodLink RX3 91 yX0_factor ∈ TB ∧ Cond.instanceMethod yX0_factor ∈ TB ∧ Cond.selects RX0 yX0_factor yX0_factor ∈ TB := ⟨tw_1_198, tw_1_199, tw_1_200⟩
theorem lk_X3_95 : Cond.methodLink RX3 95 yX0_putFactor ∈ TB ∧ Cond.instanceMethod yX0_putFactor ∈ TB ∧ Cond.selects RX0 yX0_putFactor yX0_putFactor ∈ TB := ⟨tw_1_202, tw_1_203, tw_1_204⟩
theorem lk_L_26 : Cond.methodLink RL 26 yX3_type ∈ TB ∧ Cond.instanceMethod yX3_type ∈ TB ∧ Cond.selects RX3 yX3_type yX3_type ∈ TB := ⟨tw_1_206, tw_1_207, tw_1_208⟩
theorem lk_X3_101 : Cond.methodLink RX3 101 yX1_append ∈ TB ∧ Cond.instanceMethod yX1_append ∈ TB ∧ Cond.selects RX1 yX1_append yX1_append ∈ TB := ⟨tw_1_210, tw_1_211, tw_1_212⟩
theorem lk_L_31 : Cond.methodLink RL 31 yX3_clear ∈ TB ∧ Cond.instanceMethod yX3_clear ∈ TB ∧ Cond.selects RX3 yX3_clear yX3_clear ∈ TB := ⟨tw_1_214, tw_1_215, tw_1_216⟩
theorem lk_L_36 : Cond.methodLink RL 36 yX3_read ∈ TB ∧ Cond.instanceMethod yX3_read ∈ TB ∧ Cond.selects RX3 yX3_read yX3_read ∈ TB := ⟨tw_1_218, tw_1_219, tw_1_220⟩
theorem lk_X3_105 : Cond.methodLink RX3 105 yX1_parseInto ∈ TB ∧ Cond.instanceMethod yX1_parseInto ∈ TB ∧ Cond.selects RX1 yX1_parseInto yX1_parseInto ∈ TB := ⟨tw_1_222, tw_1_223, tw_1_224⟩
theorem lk_X1_28 : Cond.methodLink RX1 28 yX1_readSafeItem ∈ TB ∧ Cond.instanceMethod yX1_readSafeItem ∈ TB ∧ Cond.selects RX1 yX1_readSafeItem yX1_readSafeItem ∈ TB := ⟨tw_1_226, tw_1_228, ts_X1_readSafeItem⟩
theorem lk_X1_32 : Cond.methodLink RX1 32 yX1_nextToken ∈ TB ∧ Cond.instanceMethod yX1_nextToken ∈ TB ∧ Cond.selects RX1 yX1_nextToken yX1_nextToken ∈ TB := ⟨tw_1_230, tw_1_232, ts_X1_nextToken⟩
theorem lk_X1_77 : Cond.methodLink RX1 77 yX1_byteAt ∈ TB ∧ Cond.instanceMethod yX1_byteAt ∈ TB ∧ Cond.selects RX1 yX1_byteAt yX1_byteAt ∈ TB := ⟨tw_1_234, tw_1_236, ts_X1_byteAt⟩
theorem lk_X1_94 : Cond.methodLink RX1 94 yX1_tokenBegunBy ∈ TB ∧ Cond.static yX1_tokenBegunBy ∈ TB := ⟨tw_1_238, tw_1_239⟩
theorem lk_X1_97 : Cond.methodLink RX1 97 yX1_isLong ∈ TB ∧ Cond.static yX1_isLong ∈ TB := ⟨tw_2_1, tw_2_2⟩
theorem lk_X1_40 : Cond.methodLink RX1 40 yX1_isWord ∈ TB ∧ Cond.instanceMethod yX1_isWord ∈ TB ∧ Cond.selects RX1 yX1_isWord yX1_isWord ∈ TB := ⟨tw_2_5, tw_2_7, ts_X1_isWord⟩
theorem lk_X1_85 : Cond.methodLink RX1 85 yJ0_length_8abf5 ∈ TB ∧ Cond.instanceMethod yJ0_length_8abf5 ∈ TB ∧ Cond.selects RJ0 yJ0_length_8abf5 yJ0_length_8abf5 ∈ TB := ⟨tw_2_9, tw_2_10, tw_2_11⟩
theorem lk_J0_335 : Cond.methodLink RJ0 335 yJ0_coder_7d493 ∈ TB ∧ Cond.instanceMethod yJ0_coder_7d493 ∈ TB ∧ Cond.selects RJ0 yJ0_coder_7d493 yJ0_coder_7d493 ∈ TB := ⟨tw_2_13, tw_2_14, tw_2_15⟩
theorem lk_X1_90 : Cond.methodLink RX1 90 yJ0_charAt_5068e ∈ TB ∧ Cond.instanceMethod yJ0_charAt_5068e ∈ TB ∧ Cond.selects RJ0 yJ0_charAt_5068e yJ0_charAt_5068e ∈ TB := ⟨tw_2_19, tw_2_20, tw_2_21⟩
theorem lk_J0_492 : Cond.methodLink RJ0 492 yJ0_isLatin1_aae02 ∈ TB ∧ Cond.instanceMethod yJ0_isLatin1_aae02 ∈ TB ∧ Cond.selects RJ0 yJ0_isLatin1_aae02 yJ0_isLatin1_aae02 ∈ TB := ⟨tw_2_23, tw_2_24, tw_2_25⟩
theorem lk_J0_495 : Cond.methodLink RJ0 495 yJ1_charAt_3b067 ∈ TB ∧ Cond.static yJ1_charAt_3b067 ∈ TB := ⟨tw_2_27, tw_2_28⟩
theorem lk_J1_9 : Cond.methodLink RJ1 9 yJ0_checkIndex_df160 ∈ TB ∧ Cond.static yJ0_checkIndex_df160 ∈ TB := ⟨tw_2_30, tw_2_31⟩
theorem lk_J0_1059 : Cond.methodLink RJ0 1059 yJ3_checkIndex_8e157 ∈ TB ∧ Cond.static yJ3_checkIndex_8e157 ∈ TB := ⟨tw_2_35, tw_2_36⟩
theorem lk_J0_498 : Cond.methodLink RJ0 498 yJ2_charAt_3b067 ∈ TB ∧ Cond.static yJ2_charAt_3b067 ∈ TB := ⟨tw_2_38, tw_2_39⟩
theorem lk_J2_67 : Cond.methodLink RJ2 67 yJ2_checkIndex_2214a ∈ TB ∧ Cond.static yJ2_checkIndex_2214a ∈ TB := ⟨tw_2_41, tw_2_42⟩
theorem lk_J2_48 : Cond.methodLink RJ2 48 yJ2_length_9d52b ∈ TB ∧ Cond.static yJ2_length_9d52b ∈ TB := ⟨tw_2_44, tw_2_45⟩
theorem lk_J2_414 : Cond.methodLink RJ2 414 yJ0_checkIndex_df160 ∈ TB ∧ Cond.static yJ0_checkIndex_df160 ∈ TB := ⟨tw_2_47, tw_2_31⟩
theorem lk_J2_71 : Cond.methodLink RJ2 71 yJ2_getChar_3b067 ∈ TB ∧ Cond.static yJ2_getChar_3b067 ∈ TB := ⟨tw_2_48, tw_2_49⟩
theorem lk_X1_44 : Cond.methodLink RX1 44 yX1_nextNumber ∈ TB ∧ Cond.instanceMethod yX1_nextNumber ∈ TB ∧ Cond.selects RX1 yX1_nextNumber yX1_nextNumber ∈ TB := ⟨tw_2_57, tw_2_59, ts_X1_nextNumber⟩
theorem lk_X1_48 : Cond.methodLink RX1 48 yX0_begin ∈ TB ∧ Cond.instanceMethod yX0_begin ∈ TB ∧ Cond.selects RX0 yX0_begin yX0_begin ∈ TB := ⟨tw_2_62, tw_1_170, tw_1_171⟩
theorem lk_X1_54 : Cond.methodLink RX1 54 yX1_nextIsStop ∈ TB ∧ Cond.instanceMethod yX1_nextIsStop ∈ TB ∧ Cond.selects RX1 yX1_nextIsStop yX1_nextIsStop ∈ TB := ⟨tw_2_63, tw_2_65, ts_X1_nextIsStop⟩
theorem lk_X1_35 : Cond.methodLink RX1 35 yX1_readOtherItem ∈ TB ∧ Cond.instanceMethod yX1_readOtherItem ∈ TB ∧ Cond.selects RX1 yX1_readOtherItem yX1_readOtherItem ∈ TB := ⟨tw_2_67, tw_2_69, ts_X1_readOtherItem⟩
theorem lk_X1_60 : Cond.methodLink RX1 60 yX1_readWay ∈ TB ∧ Cond.instanceMethod yX1_readWay ∈ TB ∧ Cond.selects RX1 yX1_readWay yX1_readWay ∈ TB := ⟨tw_2_72, tw_2_74, ts_X1_readWay⟩
theorem lk_X1_71 : Cond.methodLink RX1 71 yX0_putFactor ∈ TB ∧ Cond.instanceMethod yX0_putFactor ∈ TB ∧ Cond.selects RX0 yX0_putFactor yX0_putFactor ∈ TB := ⟨tw_2_76, tw_1_203, tw_1_204⟩
theorem lk_X1_65 : Cond.methodLink RX1 65 yX0_isFull ∈ TB ∧ Cond.instanceMethod yX0_isFull ∈ TB ∧ Cond.selects RX0 yX0_isFull yX0_isFull ∈ TB := ⟨tw_2_78, tw_1_183, tw_1_184⟩
theorem lk_X1_68 : Cond.methodLink RX1 68 yX1_readHolder ∈ TB ∧ Cond.instanceMethod yX1_readHolder ∈ TB ∧ Cond.selects RX1 yX1_readHolder yX1_readHolder ∈ TB := ⟨tw_2_79, tw_2_81, ts_X1_readHolder⟩
theorem lk_X1_74 : Cond.methodLink RX1 74 yX0_addHolder ∈ TB ∧ Cond.instanceMethod yX0_addHolder ∈ TB ∧ Cond.selects RX0 yX0_addHolder yX0_addHolder ∈ TB := ⟨tw_2_83, tw_1_191, tw_1_192⟩
theorem lk_X3_112 : Cond.methodLink RX3 112 yX0_copyFrom ∈ TB ∧ Cond.instanceMethod yX0_copyFrom ∈ TB ∧ Cond.selects RX0 yX0_copyFrom yX0_copyFrom ∈ TB := ⟨tw_2_84, tw_2_85, tw_2_86⟩
theorem lk_X0_69 : Cond.methodLink RX0 69 yX2_copyWithout ∈ TB ∧ Cond.instanceMethod yX2_copyWithout ∈ TB ∧ Cond.selects RX2 yX2_copyWithout yX2_copyWithout ∈ TB := ⟨tw_2_91, tw_2_92, tw_2_93⟩
theorem lk_X2_35 : Cond.methodLink RX2 35 yX2_numberAt ∈ TB ∧ Cond.instanceMethod yX2_numberAt ∈ TB ∧ Cond.selects RX2 yX2_numberAt yX2_numberAt ∈ TB := ⟨tw_2_98, tw_2_99, tw_2_100⟩
theorem lk_L_40 : Cond.methodLink RL 40 yX3_day ∈ TB ∧ Cond.instanceMethod yX3_day ∈ TB ∧ Cond.selects RX3 yX3_day yX3_day ∈ TB := ⟨tw_2_102, tw_2_103, tw_2_104⟩
theorem lk_X3_116 : Cond.methodLink RX3 116 yX0_hasAll ∈ TB ∧ Cond.instanceMethod yX0_hasAll ∈ TB ∧ Cond.selects RX0 yX0_hasAll yX0_hasAll ∈ TB := ⟨tw_2_106, tw_2_107, tw_2_108⟩
theorem lk_X0_73 : Cond.methodLink RX0 73 yX0_everyone ∈ TB ∧ Cond.instanceMethod yX0_everyone ∈ TB ∧ Cond.selects RX0 yX0_everyone yX0_everyone ∈ TB := ⟨tw_2_110, tw_2_111, tw_2_112⟩
theorem lk_X3_123 : Cond.methodLink RX3 123 yX0_remember ∈ TB ∧ Cond.instanceMethod yX0_remember ∈ TB ∧ Cond.selects RX0 yX0_remember yX0_remember ∈ TB := ⟨tw_2_114, tw_2_115, tw_2_116⟩
theorem lk_X3_126 : Cond.methodLink RX3 126 yX0_passDay ∈ TB ∧ Cond.instanceMethod yX0_passDay ∈ TB ∧ Cond.selects RX0 yX0_passDay yX0_passDay ∈ TB := ⟨tw_2_118, tw_2_119, tw_2_120⟩
theorem lk_X0_120 : Cond.methodLink RX0 120 yX0_outcome ∈ TB ∧ Cond.instanceMethod yX0_outcome ∈ TB ∧ Cond.selects RX0 yX0_outcome yX0_outcome ∈ TB := ⟨tw_2_122, tw_2_123, tw_2_124⟩
theorem lk_X0_113 : Cond.methodLink RX0 113 yX0_collect ∈ TB ∧ Cond.instanceMethod yX0_collect ∈ TB ∧ Cond.selects RX0 yX0_collect yX0_collect ∈ TB := ⟨tw_2_126, tw_2_127, tw_2_128⟩
theorem lk_X0_104 : Cond.methodLink RX0 104 yJ6_bitCount_0f7a4 ∈ TB ∧ Cond.static yJ6_bitCount_0f7a4 ∈ TB := ⟨tw_2_130, tw_2_131⟩
theorem lk_X0_109 : Cond.methodLink RX0 109 yX0_wordOf ∈ TB ∧ Cond.instanceMethod yX0_wordOf ∈ TB ∧ Cond.selects RX0 yX0_wordOf yX0_wordOf ∈ TB := ⟨tw_2_137, tw_2_138, tw_2_139⟩
theorem lk_X0_84 : Cond.methodLink RX0 84 yX0_shareOf ∈ TB ∧ Cond.instanceMethod yX0_shareOf ∈ TB ∧ Cond.selects RX0 yX0_shareOf yX0_shareOf ∈ TB := ⟨tw_2_141, tw_2_142, tw_2_143⟩
theorem lk_X0_77 : Cond.methodLink RX0 77 yX0_factor ∈ TB ∧ Cond.instanceMethod yX0_factor ∈ TB ∧ Cond.selects RX0 yX0_factor yX0_factor ∈ TB := ⟨tw_2_145, tw_1_199, tw_1_200⟩
theorem lk_X0_87 : Cond.methodLink RX0 87 yX0_extraOf ∈ TB ∧ Cond.instanceMethod yX0_extraOf ∈ TB ∧ Cond.selects RX0 yX0_extraOf yX0_extraOf ∈ TB := ⟨tw_2_149, tw_2_150, tw_2_151⟩
theorem lk_X0_90 : Cond.methodLink RX0 90 yX0_kindOf ∈ TB ∧ Cond.instanceMethod yX0_kindOf ∈ TB ∧ Cond.selects RX0 yX0_kindOf yX0_kindOf ∈ TB := ⟨tw_2_153, tw_2_154, tw_2_155⟩
theorem lk_X0_93 : Cond.methodLink RX0 93 yX0_isForgotten ∈ TB ∧ Cond.static yX0_isForgotten ∈ TB := ⟨tw_2_157, tw_2_158⟩
theorem lk_X0_143 : Cond.methodLink RX0 143 yJ9_floorMod_7cf53 ∈ TB ∧ Cond.static yJ9_floorMod_7cf53 ∈ TB := ⟨tw_2_160, tw_2_161⟩
theorem lk_X0_100 : Cond.methodLink RX0 100 yX2_put ∈ TB ∧ Cond.instanceMethod yX2_put ∈ TB ∧ Cond.selects RX2 yX2_put yX2_put ∈ TB := ⟨tw_2_163, tw_2_164, tw_2_165⟩
theorem lk_X0_117 : Cond.methodLink RX0 117 yX2_foundBy ∈ TB ∧ Cond.instanceMethod yX2_foundBy ∈ TB ∧ Cond.selects RX2 yX2_foundBy yX2_foundBy ∈ TB := ⟨tw_2_167, tw_2_168, tw_2_169⟩
theorem lk_X2_38 : Cond.methodLink RX2 38 yX2_firstBits ∈ TB ∧ Cond.instanceMethod yX2_firstBits ∈ TB ∧ Cond.selects RX2 yX2_firstBits yX2_firstBits ∈ TB := ⟨tw_2_171, tw_2_173, ts_X2_firstBits⟩
theorem lk_X2_41 : Cond.methodLink RX2 41 yX2_valueAt ∈ TB ∧ Cond.instanceMethod yX2_valueAt ∈ TB ∧ Cond.selects RX2 yX2_valueAt yX2_valueAt ∈ TB := ⟨tw_2_175, tw_2_177, ts_X2_valueAt⟩
theorem lk_X2_53 : Cond.methodLink RX2 53 yX2_weight ∈ TB ∧ Cond.instanceMethod yX2_weight ∈ TB ∧ Cond.selects RX2 yX2_weight yX2_weight ∈ TB := ⟨tw_2_179, tw_2_181, ts_X2_weight⟩
theorem lk_X2_60 : Cond.methodLink RX2 60 yX2_inverse ∈ TB ∧ Cond.static yX2_inverse ∈ TB := ⟨tw_2_184, tw_2_185⟩
theorem lk_X0_124 : Cond.methodLink RX0 124 yX0_countWrongTry ∈ TB ∧ Cond.instanceMethod yX0_countWrongTry ∈ TB ∧ Cond.selects RX0 yX0_countWrongTry yX0_countWrongTry ∈ TB := ⟨tw_2_189, tw_2_191, ts_X0_countWrongTry⟩
theorem lk_L_44 : Cond.methodLink RL 44 yX3_change ∈ TB ∧ Cond.instanceMethod yX3_change ∈ TB ∧ Cond.selects RX3 yX3_change yX3_change ∈ TB := ⟨tw_2_193, tw_2_194, tw_2_195⟩
theorem lk_X3_131 : Cond.methodLink RX3 131 yX0_changeWay ∈ TB ∧ Cond.instanceMethod yX0_changeWay ∈ TB ∧ Cond.selects RX0 yX0_changeWay yX0_changeWay ∈ TB := ⟨tw_2_198, tw_2_199, tw_2_200⟩
theorem lk_X0_135 : Cond.methodLink RX0 135 yX0_putFactor ∈ TB ∧ Cond.instanceMethod yX0_putFactor ∈ TB ∧ Cond.selects RX0 yX0_putFactor yX0_putFactor ∈ TB := ⟨tw_2_212, tw_1_203, tw_1_204⟩
theorem lk_L_48 : Cond.methodLink RL 48 yX3_undo ∈ TB ∧ Cond.instanceMethod yX3_undo ∈ TB ∧ Cond.selects RX3 yX3_undo yX3_undo ∈ TB := ⟨tw_2_213, tw_2_214, tw_2_215⟩
theorem lk_X3_134 : Cond.methodLink RX3 134 yX3_refuseNo ∈ TB ∧ Cond.instanceMethod yX3_refuseNo ∈ TB ∧ Cond.selects RX3 yX3_refuseNo yX3_refuseNo ∈ TB := ⟨tw_2_217, tw_2_219, ts_X3_refuseNo⟩
theorem lk_X3_137 : Cond.methodLink RX3 137 yX0_goBack ∈ TB ∧ Cond.instanceMethod yX0_goBack ∈ TB ∧ Cond.selects RX0 yX0_goBack yX0_goBack ∈ TB := ⟨tw_2_221, tw_2_222, tw_2_223⟩
theorem lk_L_52 : Cond.methodLink RL 52 yX3_of ∈ TB ∧ Cond.instanceMethod yX3_of ∈ TB ∧ Cond.selects RX3 yX3_of yX3_of ∈ TB := ⟨tw_2_225, tw_2_226, tw_2_227⟩
theorem lk_X3_143 : Cond.methodLink RX3 143 yX0_hasHolder ∈ TB ∧ Cond.instanceMethod yX0_hasHolder ∈ TB ∧ Cond.selects RX0 yX0_hasHolder yX0_hasHolder ∈ TB := ⟨tw_2_229, tw_2_230, tw_2_231⟩
theorem lk_X3_146 : Cond.methodLink RX3 146 yX0_kindOf ∈ TB ∧ Cond.instanceMethod yX0_kindOf ∈ TB ∧ Cond.selects RX0 yX0_kindOf yX0_kindOf ∈ TB := ⟨tw_2_233, tw_2_154, tw_2_155⟩
theorem lk_X3_149 : Cond.methodLink RX3 149 yX0_extraOf ∈ TB ∧ Cond.instanceMethod yX0_extraOf ∈ TB ∧ Cond.selects RX0 yX0_extraOf yX0_extraOf ∈ TB := ⟨tw_2_234, tw_2_150, tw_2_151⟩
theorem lk_X3_152 : Cond.methodLink RX3 152 yX0_shareOf ∈ TB ∧ Cond.instanceMethod yX0_shareOf ∈ TB ∧ Cond.selects RX0 yX0_shareOf yX0_shareOf ∈ TB := ⟨tw_2_235, tw_2_142, tw_2_143⟩
theorem lk_L_56 : Cond.methodLink RL 56 yX3_tells ∈ TB ∧ Cond.instanceMethod yX3_tells ∈ TB ∧ Cond.selects RX3 yX3_tells yX3_tells ∈ TB := ⟨tw_2_236, tw_2_237, tw_2_238⟩
theorem lk_X3_155 : Cond.methodLink RX3 155 yX3_isDay ∈ TB ∧ Cond.static yX3_isDay ∈ TB := ⟨tw_3_0, tw_3_1⟩
theorem lk_X3_158 : Cond.methodLink RX3 158 yX0_wordOf ∈ TB ∧ Cond.instanceMethod yX0_wordOf ∈ TB ∧ Cond.selects RX0 yX0_wordOf yX0_wordOf ∈ TB := ⟨tw_3_3, tw_2_138, tw_2_139⟩
theorem lk_L_61 : Cond.methodLink RL 61 yX3_finds ∈ TB ∧ Cond.instanceMethod yX3_finds ∈ TB ∧ Cond.selects RX3 yX3_finds yX3_finds ∈ TB := ⟨tw_3_4, tw_3_5, tw_3_6⟩
theorem lk_X3_162 : Cond.methodLink RX3 162 yX2_empty ∈ TB ∧ Cond.instanceMethod yX2_empty ∈ TB ∧ Cond.selects RX2 yX2_empty yX2_empty ∈ TB := ⟨tw_3_8, tw_1_175, tw_1_176⟩
theorem lk_X3_165 : Cond.methodLink RX3 165 yX0_putShares ∈ TB ∧ Cond.instanceMethod yX0_putShares ∈ TB ∧ Cond.selects RX0 yX0_putShares yX0_putShares ∈ TB := ⟨tw_3_9, tw_3_10, tw_3_11⟩
theorem lk_X3_172 : Cond.methodLink RX3 172 yX2_foundBy ∈ TB ∧ Cond.instanceMethod yX2_foundBy ∈ TB ∧ Cond.selects RX2 yX2_foundBy yX2_foundBy ∈ TB := ⟨tw_3_13, tw_2_168, tw_2_169⟩
theorem lk_L_65 : Cond.methodLink RL 65 yX3_knows ∈ TB ∧ Cond.instanceMethod yX3_knows ∈ TB ∧ Cond.selects RX3 yX3_knows yX3_knows ∈ TB := ⟨tw_3_14, tw_3_15, tw_3_16⟩
theorem lk_X3_175 : Cond.methodLink RX3 175 yJ6_bitCount_0f7a4 ∈ TB ∧ Cond.static yJ6_bitCount_0f7a4 ∈ TB := ⟨tw_3_18, tw_2_131⟩
theorem lk_L_69 : Cond.methodLink RL 69 yX3_comes ∈ TB ∧ Cond.instanceMethod yX3_comes ∈ TB ∧ Cond.selects RX3 yX3_comes yX3_comes ∈ TB := ⟨tw_3_19, tw_3_20, tw_3_21⟩
theorem lk_X3_180 : Cond.methodLink RX3 180 yX0_outcome ∈ TB ∧ Cond.instanceMethod yX0_outcome ∈ TB ∧ Cond.selects RX0 yX0_outcome yX0_outcome ∈ TB := ⟨tw_3_23, tw_2_123, tw_2_124⟩
theorem lk_L_73 : Cond.methodLink RL 73 yX3_tell ∈ TB ∧ Cond.instanceMethod yX3_tell ∈ TB ∧ Cond.selects RX3 yX3_tell yX3_tell ∈ TB := ⟨tw_3_24, tw_3_25, tw_3_26⟩
theorem lk_X3_187 : Cond.methodLink RX3 187 yX2_numberAt ∈ TB ∧ Cond.instanceMethod yX2_numberAt ∈ TB ∧ Cond.selects RX2 yX2_numberAt yX2_numberAt ∈ TB := ⟨tw_3_28, tw_2_99, tw_2_100⟩
theorem lk_X3_190 : Cond.methodLink RX3 190 yX2_put ∈ TB ∧ Cond.instanceMethod yX2_put ∈ TB ∧ Cond.selects RX2 yX2_put yX2_put ∈ TB := ⟨tw_3_29, tw_2_164, tw_2_165⟩
theorem lk_L_77 : Cond.methodLink RL 77 yX3_forget ∈ TB ∧ Cond.instanceMethod yX3_forget ∈ TB ∧ Cond.selects RX3 yX3_forget yX3_forget ∈ TB := ⟨tw_3_30, tw_3_31, tw_3_32⟩
theorem lk_X3_193 : Cond.methodLink RX3 193 yX2_size ∈ TB ∧ Cond.instanceMethod yX2_size ∈ TB ∧ Cond.selects RX2 yX2_size yX2_size ∈ TB := ⟨tw_3_34, tw_3_35, tw_3_36⟩
theorem lk_X2_21 : Cond.methodLink RX2 21 yX2_bits ∈ TB ∧ Cond.instanceMethod yX2_bits ∈ TB ∧ Cond.selects RX2 yX2_bits yX2_bits ∈ TB := ⟨tw_3_38, tw_3_40, ts_X2_bits⟩
theorem lk_X2_25 : Cond.methodLink RX2 25 yJ6_bitCount_0f7a4 ∈ TB ∧ Cond.static yJ6_bitCount_0f7a4 ∈ TB := ⟨tw_3_42, tw_2_131⟩
theorem lk_L_81 : Cond.methodLink RL 81 yX3_agree ∈ TB ∧ Cond.instanceMethod yX3_agree ∈ TB ∧ Cond.selects RX3 yX3_agree yX3_agree ∈ TB := ⟨tw_3_43, tw_3_44, tw_3_45⟩
theorem lk_X3_196 : Cond.methodLink RX3 196 yX2_agreesBy ∈ TB ∧ Cond.instanceMethod yX2_agreesBy ∈ TB ∧ Cond.selects RX2 yX2_agreesBy yX2_agreesBy ∈ TB := ⟨tw_3_47, tw_3_48, tw_3_49⟩
theorem lk_L_85 : Cond.methodLink RL 85 yX3_liars ∈ TB ∧ Cond.instanceMethod yX3_liars ∈ TB ∧ Cond.selects RX3 yX3_liars yX3_liars ∈ TB := ⟨tw_3_51, tw_3_52, tw_3_53⟩
theorem lk_X3_199 : Cond.methodLink RX3 199 yX2_liarBits ∈ TB ∧ Cond.instanceMethod yX2_liarBits ∈ TB ∧ Cond.selects RX2 yX2_liarBits yX2_liarBits ∈ TB := ⟨tw_3_55, tw_3_56, tw_3_57⟩
theorem lk_X2_45 : Cond.methodLink RX2 45 yX2_copyWithout ∈ TB ∧ Cond.instanceMethod yX2_copyWithout ∈ TB ∧ Cond.selects RX2 yX2_copyWithout yX2_copyWithout ∈ TB := ⟨tw_3_59, tw_2_92, tw_2_93⟩
theorem lk_X2_49 : Cond.methodLink RX2 49 yX2_agreesBy ∈ TB ∧ Cond.instanceMethod yX2_agreesBy ∈ TB ∧ Cond.selects RX2 yX2_agreesBy yX2_agreesBy ∈ TB := ⟨tw_3_60, tw_3_48, tw_3_49⟩
theorem lk_L_89 : Cond.methodLink RL 89 yX3_guess ∈ TB ∧ Cond.instanceMethod yX3_guess ∈ TB ∧ Cond.selects RX3 yX3_guess yX3_guess ∈ TB := ⟨tw_3_61, tw_3_62, tw_3_63⟩
theorem lk_X3_202 : Cond.methodLink RX3 202 yX2_copyWithout ∈ TB ∧ Cond.instanceMethod yX2_copyWithout ∈ TB ∧ Cond.selects RX2 yX2_copyWithout yX2_copyWithout ∈ TB := ⟨tw_3_65, tw_2_92, tw_2_93⟩
theorem lk_L_93 : Cond.methodLink RL 93 yX3_mixed ∈ TB ∧ Cond.instanceMethod yX3_mixed ∈ TB ∧ Cond.selects RX3 yX3_mixed yX3_mixed ∈ TB := ⟨tw_3_66, tw_3_67, tw_3_68⟩
theorem lk_X3_206 : Cond.methodLink RX3 206 yX3_isImage ∈ TB ∧ Cond.static yX3_isImage ∈ TB := ⟨tw_3_70, tw_3_71⟩
theorem lk_X3_209 : Cond.methodLink RX3 209 yX3_isKept ∈ TB ∧ Cond.instanceMethod yX3_isKept ∈ TB ∧ Cond.selects RX3 yX3_isKept yX3_isKept ∈ TB := ⟨tw_3_73, tw_3_75, ts_X3_isKept⟩
theorem lk_X3_212 : Cond.methodLink RX3 212 yX3_imageAt ∈ TB ∧ Cond.instanceMethod yX3_imageAt ∈ TB ∧ Cond.selects RX3 yX3_imageAt yX3_imageAt ∈ TB := ⟨tw_3_77, tw_3_79, ts_X3_imageAt⟩
theorem lk_L_97 : Cond.methodLink RL 97 yX3_odds ∈ TB ∧ Cond.instanceMethod yX3_odds ∈ TB ∧ Cond.selects RX3 yX3_odds yX3_odds ∈ TB := ⟨tw_3_81, tw_3_82, tw_3_83⟩
theorem lk_X3_216 : Cond.methodLink RX3 216 yX3_partsWithAtLeast ∈ TB ∧ Cond.static yX3_partsWithAtLeast ∈ TB := ⟨tw_3_85, tw_3_86⟩
theorem lk_X3_220 : Cond.methodLink RX3 220 yX3_power ∈ TB ∧ Cond.static yX3_power ∈ TB := ⟨tw_3_88, tw_3_89⟩
theorem lk_X3_224 : Cond.methodLink RX3 224 yX3_commonDivisor ∈ TB ∧ Cond.static yX3_commonDivisor ∈ TB := ⟨tw_3_91, tw_3_92⟩
theorem lk_L_101 : Cond.methodLink RL 101 yX3_best ∈ TB ∧ Cond.instanceMethod yX3_best ∈ TB ∧ Cond.selects RX3 yX3_best yX3_best ∈ TB := ⟨tw_3_94, tw_3_95, tw_3_96⟩
theorem lk_L_105 : Cond.methodLink RL 105 yX3_must ∈ TB ∧ Cond.instanceMethod yX3_must ∈ TB ∧ Cond.selects RX3 yX3_must yX3_must ∈ TB := ⟨tw_3_98, tw_3_99, tw_3_100⟩
theorem lk_X3_228 : Cond.methodLink RX3 228 yX0_everyone ∈ TB ∧ Cond.instanceMethod yX0_everyone ∈ TB ∧ Cond.selects RX0 yX0_everyone yX0_everyone ∈ TB := ⟨tw_3_102, tw_2_111, tw_2_112⟩
theorem lk_L_109 : Cond.methodLink RL 109 yX3_cars ∈ TB ∧ Cond.instanceMethod yX3_cars ∈ TB ∧ Cond.selects RX3 yX3_cars yX3_cars ∈ TB := ⟨tw_3_103, tw_3_104, tw_3_105⟩
theorem lk_X3_231 : Cond.methodLink RX3 231 yX3_isSafeParting ∈ TB ∧ Cond.instanceMethod yX3_isSafeParting ∈ TB ∧ Cond.selects RX3 yX3_isSafeParting yX3_isSafeParting ∈ TB := ⟨tw_3_107, tw_3_109, ts_X3_isSafeParting⟩
theorem lk_L_113 : Cond.methodLink RL 113 yX3_envelope ∈ TB ∧ Cond.instanceMethod yX3_envelope ∈ TB ∧ Cond.selects RX3 yX3_envelope yX3_envelope ∈ TB := ⟨tw_3_111, tw_3_112, tw_3_113⟩
theorem lk_X3_234 : Cond.methodLink RX3 234 yX3_envelopeDays ∈ TB ∧ Cond.instanceMethod yX3_envelopeDays ∈ TB ∧ Cond.selects RX3 yX3_envelopeDays yX3_envelopeDays ∈ TB := ⟨tw_3_115, tw_3_117, ts_X3_envelopeDays⟩
theorem lk_X3_262 : Cond.methodLink RX3 262 yX0_collect ∈ TB ∧ Cond.instanceMethod yX0_collect ∈ TB ∧ Cond.selects RX0 yX0_collect yX0_collect ∈ TB := ⟨tw_3_119, tw_2_127, tw_2_128⟩
theorem lk_L_117 : Cond.methodLink RL 117 yX3_days ∈ TB ∧ Cond.instanceMethod yX3_days ∈ TB ∧ Cond.selects RX3 yX3_days yX3_days ∈ TB := ⟨tw_3_120, tw_3_121, tw_3_122⟩
theorem lk_X3_238 : Cond.methodLink RX3 238 yX3_nextX ∈ TB ∧ Cond.static yX3_nextX ∈ TB := ⟨tw_3_124, tw_2_203⟩
theorem lk_X3_242 : Cond.methodLink RX3 242 yX3_drawn ∈ TB ∧ Cond.static yX3_drawn ∈ TB := ⟨tw_3_125, tw_2_209⟩
theorem lk_L_121 : Cond.methodLink RL 121 yX3_part ∈ TB ∧ Cond.instanceMethod yX3_part ∈ TB ∧ Cond.selects RX3 yX3_part yX3_part ∈ TB := ⟨tw_3_126, tw_3_127, tw_3_128⟩
theorem lk_L_126 : Cond.methodLink RL 126 yX3_image ∈ TB ∧ Cond.instanceMethod yX3_image ∈ TB ∧ Cond.selects RX3 yX3_image yX3_image ∈ TB := ⟨tw_3_130, tw_3_131, tw_3_132⟩
theorem lk_L_130 : Cond.methodLink RL 130 yX3_from ∈ TB ∧ Cond.instanceMethod yX3_from ∈ TB ∧ Cond.selects RX3 yX3_from yX3_from ∈ TB := ⟨tw_3_134, tw_3_135, tw_3_136⟩
theorem lk_L_134 : Cond.methodLink RL 134 yX3_status ∈ TB ∧ Cond.instanceMethod yX3_status ∈ TB ∧ Cond.selects RX3 yX3_status yX3_status ∈ TB := ⟨tw_3_138, tw_3_139, tw_3_140⟩
theorem lk_L_138 : Cond.methodLink RL 138 yX3_count ∈ TB ∧ Cond.instanceMethod yX3_count ∈ TB ∧ Cond.selects RX3 yX3_count yX3_count ∈ TB := ⟨tw_3_142, tw_3_143, tw_3_144⟩
theorem lk_X3_246 : Cond.methodLink RX3 246 yX3_amount ∈ TB ∧ Cond.instanceMethod yX3_amount ∈ TB ∧ Cond.selects RX3 yX3_amount yX3_amount ∈ TB := ⟨tw_3_146, tw_3_148, ts_X3_amount⟩
theorem lk_L_142 : Cond.methodLink RL 142 yX3_digest ∈ TB ∧ Cond.instanceMethod yX3_digest ∈ TB ∧ Cond.selects RX3 yX3_digest yX3_digest ∈ TB := ⟨tw_3_150, tw_3_151, tw_3_152⟩
theorem lk_X3_253 : Cond.methodLink RX3 253 yX0_mixInto ∈ TB ∧ Cond.instanceMethod yX0_mixInto ∈ TB ∧ Cond.selects RX0 yX0_mixInto yX0_mixInto ∈ TB := ⟨tw_3_156, tw_3_157, tw_3_158⟩
theorem lk_X0_140 : Cond.methodLink RX0 140 yX2_numberAt ∈ TB ∧ Cond.instanceMethod yX2_numberAt ∈ TB ∧ Cond.selects RX2 yX2_numberAt yX2_numberAt ∈ TB := ⟨tw_3_161, tw_2_99, tw_2_100⟩
theorem lk_X4_48 : Cond.methodLink RX4 48 yX4_anew ∈ TB ∧ Cond.instanceMethod yX4_anew ∈ TB ∧ Cond.selects RX4 yX4_anew yX4_anew ∈ TB := ⟨tw_3_168, tw_3_170, ts_X4_anew⟩
theorem lk_L_17 : Cond.methodLink RL 17 yX4_safe ∈ TB ∧ Cond.instanceMethod yX4_safe ∈ TB ∧ Cond.selects RX4 yX4_safe yX4_safe ∈ TB := ⟨tw_3_237, tw_3_238, tw_3_239⟩
theorem lk_X4_52 : Cond.methodLink RX4 52 yX4_in ∈ TB ∧ Cond.static yX4_in ∈ TB := ⟨tw_4_2, tw_4_3⟩
theorem lk_X4_64 : Cond.methodLink RX4 64 yX4_bad ∈ TB ∧ Cond.instanceMethod yX4_bad ∈ TB ∧ Cond.selects RX4 yX4_bad yX4_bad ∈ TB := ⟨tw_4_6, tw_4_8, ts_X4_bad⟩
theorem lk_L_21 : Cond.methodLink RL 21 yX4_holder ∈ TB ∧ Cond.instanceMethod yX4_holder ∈ TB ∧ Cond.selects RX4 yX4_holder yX4_holder ∈ TB := ⟨tw_4_10, tw_4_11, tw_4_12⟩
theorem lk_X4_70 : Cond.methodLink RX4 70 yX4_full ∈ TB ∧ Cond.instanceMethod yX4_full ∈ TB ∧ Cond.selects RX4 yX4_full yX4_full ∈ TB := ⟨tw_4_15, tw_4_17, ts_X4_full⟩
theorem lk_X4_73 : Cond.methodLink RX4 73 yX4_add ∈ TB ∧ Cond.instanceMethod yX4_add ∈ TB ∧ Cond.selects RX4 yX4_add yX4_add ∈ TB := ⟨tw_4_19, tw_4_21, ts_X4_add⟩
theorem lk_L_25 : Cond.methodLink RL 25 yX4_way ∈ TB ∧ Cond.instanceMethod yX4_way ∈ TB ∧ Cond.selects RX4 yX4_way yX4_way ∈ TB := ⟨tw_4_23, tw_4_24, tw_4_25⟩
theorem lk_L_30 : Cond.methodLink RL 30 yX4_type ∈ TB ∧ Cond.instanceMethod yX4_type ∈ TB ∧ Cond.selects RX4 yX4_type yX4_type ∈ TB := ⟨tw_4_28, tw_4_29, tw_4_30⟩
theorem lk_L_35 : Cond.methodLink RL 35 yX4_clear ∈ TB ∧ Cond.instanceMethod yX4_clear ∈ TB ∧ Cond.selects RX4 yX4_clear yX4_clear ∈ TB := ⟨tw_4_33, tw_4_34, tw_4_35⟩
theorem lk_L_39 : Cond.methodLink RL 39 yX4_read ∈ TB ∧ Cond.instanceMethod yX4_read ∈ TB ∧ Cond.selects RX4 yX4_read yX4_read ∈ TB := ⟨tw_4_37, tw_4_38, tw_4_39⟩
theorem lk_X4_125 : Cond.methodLink RX4 125 yX4_readText ∈ TB ∧ Cond.instanceMethod yX4_readText ∈ TB ∧ Cond.selects RX4 yX4_readText yX4_readText ∈ TB := ⟨tw_4_41, tw_4_43, ts_X4_readText⟩
theorem lk_X4_107 : Cond.methodLink RX4 107 yX4_nextToken ∈ TB ∧ Cond.instanceMethod yX4_nextToken ∈ TB ∧ Cond.selects RX4 yX4_nextToken yX4_nextToken ∈ TB := ⟨tw_4_45, tw_4_47, ts_X4_nextToken⟩
theorem lk_X4_86 : Cond.methodLink RX4 86 yX4_byteAt ∈ TB ∧ Cond.instanceMethod yX4_byteAt ∈ TB ∧ Cond.selects RX4 yX4_byteAt yX4_byteAt ∈ TB := ⟨tw_4_49, tw_4_51, ts_X4_byteAt⟩
theorem lk_X4_121 : Cond.methodLink RX4 121 yX4_readItem ∈ TB ∧ Cond.instanceMethod yX4_readItem ∈ TB ∧ Cond.selects RX4 yX4_readItem yX4_readItem ∈ TB := ⟨tw_4_57, tw_4_59, ts_X4_readItem⟩
theorem lk_X4_110 : Cond.methodLink RX4 110 yX4_isWord ∈ TB ∧ Cond.instanceMethod yX4_isWord ∈ TB ∧ Cond.selects RX4 yX4_isWord yX4_isWord ∈ TB := ⟨tw_4_61, tw_4_63, ts_X4_isWord⟩
theorem lk_X4_114 : Cond.methodLink RX4 114 yX4_reads ∈ TB ∧ Cond.instanceMethod yX4_reads ∈ TB ∧ Cond.selects RX4 yX4_reads yX4_reads ∈ TB := ⟨tw_4_65, tw_4_67, ts_X4_reads⟩
theorem lk_L_43 : Cond.methodLink RL 43 yX4_day ∈ TB ∧ Cond.instanceMethod yX4_day ∈ TB ∧ Cond.selects RX4 yX4_day yX4_day ∈ TB := ⟨tw_4_69, tw_4_70, tw_4_71⟩
theorem lk_X4_163 : Cond.methodLink RX4 163 yX4_areHolders ∈ TB ∧ Cond.instanceMethod yX4_areHolders ∈ TB ∧ Cond.selects RX4 yX4_areHolders yX4_areHolders ∈ TB := ⟨tw_4_73, tw_4_75, ts_X4_areHolders⟩
theorem lk_X4_167 : Cond.methodLink RX4 167 yX4_note ∈ TB ∧ Cond.instanceMethod yX4_note ∈ TB ∧ Cond.selects RX4 yX4_note yX4_note ∈ TB := ⟨tw_4_77, tw_4_79, ts_X4_note⟩
theorem lk_X4_170 : Cond.methodLink RX4 170 yX4_oneDay ∈ TB ∧ Cond.instanceMethod yX4_oneDay ∈ TB ∧ Cond.selects RX4 yX4_oneDay yX4_oneDay ∈ TB := ⟨tw_4_81, tw_4_83, ts_X4_oneDay⟩
theorem lk_X4_159 : Cond.methodLink RX4 159 yX4_triedBy ∈ TB ∧ Cond.instanceMethod yX4_triedBy ∈ TB ∧ Cond.selects RX4 yX4_triedBy yX4_triedBy ∈ TB := ⟨tw_4_85, tw_4_87, ts_X4_triedBy⟩
theorem lk_X4_153 : Cond.methodLink RX4 153 yX4_tellAll ∈ TB ∧ Cond.instanceMethod yX4_tellAll ∈ TB ∧ Cond.selects RX4 yX4_tellAll yX4_tellAll ∈ TB := ⟨tw_4_89, tw_4_91, ts_X4_tellAll⟩
theorem lk_X4_138 : Cond.methodLink RX4 138 yX4_ones ∈ TB ∧ Cond.static yX4_ones ∈ TB := ⟨tw_4_93, tw_4_94⟩
theorem lk_X4_141 : Cond.methodLink RX4 141 yX4_has ∈ TB ∧ Cond.static yX4_has ∈ TB := ⟨tw_4_96, tw_4_97⟩
theorem lk_X4_145 : Cond.methodLink RX4 145 yX4_shareOf ∈ TB ∧ Cond.instanceMethod yX4_shareOf ∈ TB ∧ Cond.selects RX4 yX4_shareOf yX4_shareOf ∈ TB := ⟨tw_4_99, tw_4_101, ts_X4_shareOf⟩
theorem lk_X4_149 : Cond.methodLink RX4 149 yX4_toldOf ∈ TB ∧ Cond.instanceMethod yX4_toldOf ∈ TB ∧ Cond.selects RX4 yX4_toldOf yX4_toldOf ∈ TB := ⟨tw_4_103, tw_4_105, ts_X4_toldOf⟩
theorem lk_X4_156 : Cond.methodLink RX4 156 yX4_found ∈ TB ∧ Cond.instanceMethod yX4_found ∈ TB ∧ Cond.selects RX4 yX4_found yX4_found ∈ TB := ⟨tw_4_107, tw_4_109, ts_X4_found⟩
theorem lk_X4_132 : Cond.methodLink RX4 132 yX4_pointMany ∈ TB ∧ Cond.instanceMethod yX4_pointMany ∈ TB ∧ Cond.selects RX4 yX4_pointMany yX4_pointMany ∈ TB := ⟨tw_4_111, tw_4_113, ts_X4_pointMany⟩
theorem lk_X4_135 : Cond.methodLink RX4 135 yX4_valueAt ∈ TB ∧ Cond.instanceMethod yX4_valueAt ∈ TB ∧ Cond.selects RX4 yX4_valueAt yX4_valueAt ∈ TB := ⟨tw_4_115, tw_4_117, ts_X4_valueAt⟩
theorem lk_X4_129 : Cond.methodLink RX4 129 yX4_inverse ∈ TB ∧ Cond.static yX4_inverse ∈ TB := ⟨tw_4_119, tw_4_120⟩
theorem lk_L_47 : Cond.methodLink RL 47 yX4_change ∈ TB ∧ Cond.instanceMethod yX4_change ∈ TB ∧ Cond.selects RX4 yX4_change yX4_change ∈ TB := ⟨tw_4_122, tw_4_123, tw_4_124⟩
theorem lk_X4_186 : Cond.methodLink RX4 186 yX4_draw ∈ TB ∧ Cond.instanceMethod yX4_draw ∈ TB ∧ Cond.selects RX4 yX4_draw yX4_draw ∈ TB := ⟨tw_4_127, tw_4_129, ts_X4_draw⟩
theorem lk_L_51 : Cond.methodLink RL 51 yX4_undo ∈ TB ∧ Cond.instanceMethod yX4_undo ∈ TB ∧ Cond.selects RX4 yX4_undo yX4_undo ∈ TB := ⟨tw_4_135, tw_4_136, tw_4_137⟩
theorem lk_X4_189 : Cond.methodLink RX4 189 yX4_no ∈ TB ∧ Cond.instanceMethod yX4_no ∈ TB ∧ Cond.selects RX4 yX4_no yX4_no ∈ TB := ⟨tw_4_139, tw_4_141, ts_X4_no⟩
theorem lk_L_55 : Cond.methodLink RL 55 yX4_of ∈ TB ∧ Cond.instanceMethod yX4_of ∈ TB ∧ Cond.selects RX4 yX4_of yX4_of ∈ TB := ⟨tw_4_143, tw_4_144, tw_4_145⟩
theorem lk_X4_192 : Cond.methodLink RX4 192 yX4_isHolder ∈ TB ∧ Cond.instanceMethod yX4_isHolder ∈ TB ∧ Cond.selects RX4 yX4_isHolder yX4_isHolder ∈ TB := ⟨tw_4_147, tw_4_149, ts_X4_isHolder⟩
theorem lk_L_60 : Cond.methodLink RL 60 yX4_tells ∈ TB ∧ Cond.instanceMethod yX4_tells ∈ TB ∧ Cond.selects RX4 yX4_tells yX4_tells ∈ TB := ⟨tw_4_152, tw_4_153, tw_4_154⟩
theorem lk_L_64 : Cond.methodLink RL 64 yX4_finds ∈ TB ∧ Cond.instanceMethod yX4_finds ∈ TB ∧ Cond.selects RX4 yX4_finds yX4_finds ∈ TB := ⟨tw_4_158, tw_4_159, tw_4_160⟩
theorem lk_L_68 : Cond.methodLink RL 68 yX4_knows ∈ TB ∧ Cond.instanceMethod yX4_knows ∈ TB ∧ Cond.selects RX4 yX4_knows yX4_knows ∈ TB := ⟨tw_4_162, tw_4_163, tw_4_164⟩
theorem lk_L_72 : Cond.methodLink RL 72 yX4_comes ∈ TB ∧ Cond.instanceMethod yX4_comes ∈ TB ∧ Cond.selects RX4 yX4_comes yX4_comes ∈ TB := ⟨tw_4_166, tw_4_167, tw_4_168⟩
theorem lk_L_76 : Cond.methodLink RL 76 yX4_tell ∈ TB ∧ Cond.instanceMethod yX4_tell ∈ TB ∧ Cond.selects RX4 yX4_tell yX4_tell ∈ TB := ⟨tw_4_170, tw_4_171, tw_4_172⟩
theorem lk_L_80 : Cond.methodLink RL 80 yX4_forget ∈ TB ∧ Cond.instanceMethod yX4_forget ∈ TB ∧ Cond.selects RX4 yX4_forget yX4_forget ∈ TB := ⟨tw_4_175, tw_4_176, tw_4_177⟩
theorem lk_X4_203 : Cond.methodLink RX4 203 yX4_toldMany ∈ TB ∧ Cond.instanceMethod yX4_toldMany ∈ TB ∧ Cond.selects RX4 yX4_toldMany yX4_toldMany ∈ TB := ⟨tw_4_179, tw_4_181, ts_X4_toldMany⟩
theorem lk_L_84 : Cond.methodLink RL 84 yX4_agree ∈ TB ∧ Cond.instanceMethod yX4_agree ∈ TB ∧ Cond.selects RX4 yX4_agree yX4_agree ∈ TB := ⟨tw_4_183, tw_4_184, tw_4_185⟩
theorem lk_X4_206 : Cond.methodLink RX4 206 yX4_takeTold ∈ TB ∧ Cond.instanceMethod yX4_takeTold ∈ TB ∧ Cond.selects RX4 yX4_takeTold yX4_takeTold ∈ TB := ⟨tw_4_187, tw_4_189, ts_X4_takeTold⟩
theorem lk_X4_210 : Cond.methodLink RX4 210 yX4_agrees ∈ TB ∧ Cond.instanceMethod yX4_agrees ∈ TB ∧ Cond.selects RX4 yX4_agrees yX4_agrees ∈ TB := ⟨tw_4_191, tw_4_193, ts_X4_agrees⟩
theorem lk_L_88 : Cond.methodLink RL 88 yX4_liars ∈ TB ∧ Cond.instanceMethod yX4_liars ∈ TB ∧ Cond.selects RX4 yX4_liars yX4_liars ∈ TB := ⟨tw_4_195, tw_4_196, tw_4_197⟩
theorem lk_X4_214 : Cond.methodLink RX4 214 yX4_findLiars ∈ TB ∧ Cond.instanceMethod yX4_findLiars ∈ TB ∧ Cond.selects RX4 yX4_findLiars yX4_findLiars ∈ TB := ⟨tw_4_199, tw_4_201, ts_X4_findLiars⟩
theorem lk_L_92 : Cond.methodLink RL 92 yX4_guess ∈ TB ∧ Cond.instanceMethod yX4_guess ∈ TB ∧ Cond.selects RX4 yX4_guess yX4_guess ∈ TB := ⟨tw_4_203, tw_4_204, tw_4_205⟩
theorem lk_L_96 : Cond.methodLink RL 96 yX4_mixed ∈ TB ∧ Cond.instanceMethod yX4_mixed ∈ TB ∧ Cond.selects RX4 yX4_mixed yX4_mixed ∈ TB := ⟨tw_4_207, tw_4_208, tw_4_209⟩
theorem lk_X4_217 : Cond.methodLink RX4 217 yX4_isWhat ∈ TB ∧ Cond.static yX4_isWhat ∈ TB := ⟨tw_4_211, tw_4_212⟩
theorem lk_L_100 : Cond.methodLink RL 100 yX4_odds ∈ TB ∧ Cond.instanceMethod yX4_odds ∈ TB ∧ Cond.selects RX4 yX4_odds yX4_odds ∈ TB := ⟨tw_4_214, tw_4_215, tw_4_216⟩
theorem lk_X4_228 : Cond.methodLink RX4 228 yX4_atLeast ∈ TB ∧ Cond.instanceMethod yX4_atLeast ∈ TB ∧ Cond.selects RX4 yX4_atLeast yX4_atLeast ∈ TB := ⟨tw_4_219, tw_4_221, ts_X4_atLeast⟩
theorem lk_X4_220 : Cond.methodLink RX4 220 yX4_everybody ∈ TB ∧ Cond.instanceMethod yX4_everybody ∈ TB ∧ Cond.selects RX4 yX4_everybody yX4_everybody ∈ TB := ⟨tw_4_223, tw_4_225, ts_X4_everybody⟩
theorem lk_X4_232 : Cond.methodLink RX4 232 yX4_setFraction ∈ TB ∧ Cond.instanceMethod yX4_setFraction ∈ TB ∧ Cond.selects RX4 yX4_setFraction yX4_setFraction ∈ TB := ⟨tw_4_227, tw_4_229, ts_X4_setFraction⟩
theorem lk_L_104 : Cond.methodLink RL 104 yX4_best ∈ TB ∧ Cond.instanceMethod yX4_best ∈ TB ∧ Cond.selects RX4 yX4_best yX4_best ∈ TB := ⟨tw_4_231, tw_4_232, tw_4_233⟩
theorem lk_L_108 : Cond.methodLink RL 108 yX4_must ∈ TB ∧ Cond.instanceMethod yX4_must ∈ TB ∧ Cond.selects RX4 yX4_must yX4_must ∈ TB := ⟨tw_4_235, tw_4_236, tw_4_237⟩
theorem lk_L_112 : Cond.methodLink RL 112 yX4_cars ∈ TB ∧ Cond.instanceMethod yX4_cars ∈ TB ∧ Cond.selects RX4 yX4_cars yX4_cars ∈ TB := ⟨tw_4_239, tw_5_0, tw_5_1⟩
theorem lk_X4_236 : Cond.methodLink RX4 236 yX4_isParting ∈ TB ∧ Cond.instanceMethod yX4_isParting ∈ TB ∧ Cond.selects RX4 yX4_isParting yX4_isParting ∈ TB := ⟨tw_5_3, tw_5_5, ts_X4_isParting⟩
theorem lk_L_116 : Cond.methodLink RL 116 yX4_envelope ∈ TB ∧ Cond.instanceMethod yX4_envelope ∈ TB ∧ Cond.selects RX4 yX4_envelope yX4_envelope ∈ TB := ⟨tw_5_7, tw_5_8, tw_5_9⟩
theorem lk_L_120 : Cond.methodLink RL 120 yX4_days ∈ TB ∧ Cond.instanceMethod yX4_days ∈ TB ∧ Cond.selects RX4 yX4_days yX4_days ∈ TB := ⟨tw_5_12, tw_5_13, tw_5_14⟩
theorem lk_L_125 : Cond.methodLink RL 125 yX4_part ∈ TB ∧ Cond.instanceMethod yX4_part ∈ TB ∧ Cond.selects RX4 yX4_part yX4_part ∈ TB := ⟨tw_5_18, tw_5_19, tw_5_20⟩
theorem lk_L_129 : Cond.methodLink RL 129 yX4_image ∈ TB ∧ Cond.instanceMethod yX4_image ∈ TB ∧ Cond.selects RX4 yX4_image yX4_image ∈ TB := ⟨tw_5_22, tw_5_23, tw_5_24⟩
theorem lk_L_133 : Cond.methodLink RL 133 yX4_from ∈ TB ∧ Cond.instanceMethod yX4_from ∈ TB ∧ Cond.selects RX4 yX4_from yX4_from ∈ TB := ⟨tw_5_26, tw_5_27, tw_5_28⟩
theorem lk_L_137 : Cond.methodLink RL 137 yX4_status ∈ TB ∧ Cond.instanceMethod yX4_status ∈ TB ∧ Cond.selects RX4 yX4_status yX4_status ∈ TB := ⟨tw_5_30, tw_5_31, tw_5_32⟩
theorem lk_L_141 : Cond.methodLink RL 141 yX4_count ∈ TB ∧ Cond.instanceMethod yX4_count ∈ TB ∧ Cond.selects RX4 yX4_count yX4_count ∈ TB := ⟨tw_5_34, tw_5_35, tw_5_36⟩
theorem lk_X4_247 : Cond.methodLink RX4 247 yX4_countOf ∈ TB ∧ Cond.instanceMethod yX4_countOf ∈ TB ∧ Cond.selects RX4 yX4_countOf yX4_countOf ∈ TB := ⟨tw_5_39, tw_5_41, ts_X4_countOf⟩
theorem lk_L_146 : Cond.methodLink RL 146 yX4_digest ∈ TB ∧ Cond.instanceMethod yX4_digest ∈ TB ∧ Cond.selects RX4 yX4_digest yX4_digest ∈ TB := ⟨tw_5_43, tw_5_44, tw_5_45⟩
theorem u_X0 : ∀ w ∈ wsX00, w ∈ TB := fun w h => tb_mem (by revert w; decide +kernel) (by revert w; decide +kernel)
theorem u_X1 : ∀ w ∈ wsX10, w ∈ TB := fun w h => tb_mem (by revert w; decide +kernel) (by revert w; decide +kernel)
theorem u_X2 : ∀ w ∈ wsX20, w ∈ TB := fun w h => tb_mem (by revert w; decide +kernel) (by revert w; decide +kernel)
theorem u_X3 : ∀ w ∈ wsX30, w ∈ TB := fun w h => tb_mem (by revert w; decide +kernel) (by revert w; decide +kernel)
theorem u_X4 : ∀ w ∈ wsX40, w ∈ TB := fun w h => tb_mem (by revert w; decide +kernel) (by revert w; decide +kernel)
