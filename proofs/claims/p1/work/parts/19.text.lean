theorem w1_178 : (Cond.fieldLink "CostBench$Tape" (36 : Nat) "CostBench$Tape" "at" "I") ∈ lwg := lwg_t (tb1 178 rfl) rfl
theorem w1_177 : (Cond.fieldLink "CostBench$Tape" (33 : Nat) "CostBench$Tape" "length" "I") ∈ lwg := lwg_t (tb1 177 rfl) rfl
theorem w3_232 : (Cond.code ⟨"java/lang/String", "length", "()I"⟩ prog_28_method_54_code (1 : Nat) (Option.some FieldType.int)) ∈ lwg := lwg_t (tb3 232 rfl) rfl
theorem w3_229 : (Cond.methodLink "CostBench$Tape" (115 : Nat) ⟨"java/lang/String", "length", "()I"⟩) ∈ lwg := lwg_t (tb3 229 rfl) rfl
theorem w3_230 : (Cond.instanceMethod ⟨"java/lang/String", "length", "()I"⟩) ∈ lwg := lwg_t (tb3 230 rfl) rfl
theorem w3_231 : (Cond.selects "java/lang/String" ⟨"java/lang/String", "length", "()I"⟩ ⟨"java/lang/String", "length", "()I"⟩) ∈ lwg := lwg_t (tb3 231 rfl) rfl
theorem w1_174 : (Cond.fieldLink "CostBench$Tape" (39 : Nat) "CostBench$Tape" "faultKind" "I") ∈ lwg := lwg_t (tb1 174 rfl) rfl
theorem w1_176 : (Cond.fieldLink "CostBench$Tape" (42 : Nat) "CostBench$Tape" "faultAt" "I") ∈ lwg := lwg_t (tb1 176 rfl) rfl
theorem w3_219 : (Cond.code ⟨"CostBench$Tape", "skipBlanks", "()V"⟩ prog_11_method_14_code (1 : Nat) (Option.none : Option FieldType)) ∈ lwg := lwg_t (tb3 219 rfl) rfl
theorem w3_216 : (Cond.methodLink "CostBench$Tape" (49 : Nat) ⟨"CostBench$Tape", "skipBlanks", "()V"⟩) ∈ lwg := lwg_t (tb3 216 rfl) rfl
theorem w3_218 : (Cond.instanceMethod ⟨"CostBench$Tape", "skipBlanks", "()V"⟩) ∈ lwg := lwg_t (tb3 218 rfl) rfl
theorem ws1_7 : Cond.selects "CostBench$Tape" ⟨"CostBench$Tape", "skipBlanks", "()V"⟩ ⟨"CostBench$Tape", "skipBlanks", "()V"⟩ ∈ lwg := lwg_s (List.mem_map.mpr ⟨(⟨"CostBench$Tape", "skipBlanks", "()V"⟩, 6), List.mem_append_left _ (List.mem_of_getElem? (i := 7) rfl), rfl⟩) rfl
theorem w3_223 : (Cond.code ⟨"CostBench$Tape", "wordEnd", "()I"⟩ prog_11_method_15_code (2 : Nat) (Option.some FieldType.int)) ∈ lwg := lwg_t (tb3 223 rfl) rfl
theorem w3_220 : (Cond.methodLink "CostBench$Tape" (59 : Nat) ⟨"CostBench$Tape", "wordEnd", "()I"⟩) ∈ lwg := lwg_t (tb3 220 rfl) rfl
theorem w3_222 : (Cond.instanceMethod ⟨"CostBench$Tape", "wordEnd", "()I"⟩) ∈ lwg := lwg_t (tb3 222 rfl) rfl
theorem ws1_8 : Cond.selects "CostBench$Tape" ⟨"CostBench$Tape", "wordEnd", "()I"⟩ ⟨"CostBench$Tape", "wordEnd", "()I"⟩ ∈ lwg := lwg_s (List.mem_map.mpr ⟨(⟨"CostBench$Tape", "wordEnd", "()I"⟩, 6), List.mem_append_left _ (List.mem_of_getElem? (i := 8) rfl), rfl⟩) rfl
theorem w3_228 : (Cond.code ⟨"CostBench$Tape", "isWord", "(Ljava/lang/String;I)Z"⟩ prog_11_method_16_code (4 : Nat) (Option.some FieldType.boolean)) ∈ lwg := lwg_t (tb3 228 rfl) rfl
theorem w3_225 : (Cond.methodLink "CostBench$Tape" (65 : Nat) ⟨"CostBench$Tape", "isWord", "(Ljava/lang/String;I)Z"⟩) ∈ lwg := lwg_t (tb3 225 rfl) rfl
theorem w3_227 : (Cond.instanceMethod ⟨"CostBench$Tape", "isWord", "(Ljava/lang/String;I)Z"⟩) ∈ lwg := lwg_t (tb3 227 rfl) rfl
theorem ws1_9 : Cond.selects "CostBench$Tape" ⟨"CostBench$Tape", "isWord", "(Ljava/lang/String;I)Z"⟩ ⟨"CostBench$Tape", "isWord", "(Ljava/lang/String;I)Z"⟩ ∈ lwg := lwg_s (List.mem_map.mpr ⟨(⟨"CostBench$Tape", "isWord", "(Ljava/lang/String;I)Z"⟩, 6), List.mem_append_left _ (List.mem_of_getElem? (i := 9) rfl), rfl⟩) rfl
theorem w4_40 : (Cond.code ⟨"CostBench$Tape", "fail", "(II)Z"⟩ prog_11_method_17_code (3 : Nat) (Option.some FieldType.boolean)) ∈ lwg := lwg_t (tb4 40 rfl) rfl
theorem w4_37 : (Cond.methodLink "CostBench$Tape" (69 : Nat) ⟨"CostBench$Tape", "fail", "(II)Z"⟩) ∈ lwg := lwg_t (tb4 37 rfl) rfl
theorem w4_39 : (Cond.instanceMethod ⟨"CostBench$Tape", "fail", "(II)Z"⟩) ∈ lwg := lwg_t (tb4 39 rfl) rfl
theorem ws1_10 : Cond.selects "CostBench$Tape" ⟨"CostBench$Tape", "fail", "(II)Z"⟩ ⟨"CostBench$Tape", "fail", "(II)Z"⟩ ∈ lwg := lwg_s (List.mem_map.mpr ⟨(⟨"CostBench$Tape", "fail", "(II)Z"⟩, 6), List.mem_append_left _ (List.mem_of_getElem? (i := 10) rfl), rfl⟩) rfl
theorem w3_209 : (Cond.methodLink "CostBench$Tape" (27 : Nat) ⟨"java/lang/Math", "min", "(II)I"⟩) ∈ lwg := lwg_t (tb3 209 rfl) rfl
theorem w3_215 : (Cond.code ⟨"CostBench$Tape", "readHead", "(LCostBench$Machine;)Z"⟩ prog_11_method_6_code (4 : Nat) (Option.some FieldType.boolean)) ∈ lwg := lwg_t (tb3 215 rfl) rfl
theorem w3_212 : (Cond.methodLink "CostBench$Tape" (45 : Nat) ⟨"CostBench$Tape", "readHead", "(LCostBench$Machine;)Z"⟩) ∈ lwg := lwg_t (tb3 212 rfl) rfl
theorem w3_214 : (Cond.instanceMethod ⟨"CostBench$Tape", "readHead", "(LCostBench$Machine;)Z"⟩) ∈ lwg := lwg_t (tb3 214 rfl) rfl
theorem ws1_6 : Cond.selects "CostBench$Tape" ⟨"CostBench$Tape", "readHead", "(LCostBench$Machine;)Z"⟩ ⟨"CostBench$Tape", "readHead", "(LCostBench$Machine;)Z"⟩ ∈ lwg := lwg_s (List.mem_map.mpr ⟨(⟨"CostBench$Tape", "readHead", "(LCostBench$Machine;)Z"⟩, 6), List.mem_append_left _ (List.mem_of_getElem? (i := 6) rfl), rfl⟩) rfl
theorem w3_208 : (Cond.code ⟨"CostBench$Tape", "readMachine", "(ILCostBench$Machine;)Z"⟩ prog_11_method_5_code (4 : Nat) (Option.some FieldType.boolean)) ∈ lwg := lwg_t (tb3 208 rfl) rfl
theorem w3_205 : (Cond.methodLink "CostBench" (110 : Nat) ⟨"CostBench$Tape", "readMachine", "(ILCostBench$Machine;)Z"⟩) ∈ lwg := lwg_t (tb3 205 rfl) rfl
theorem w3_206 : (Cond.instanceMethod ⟨"CostBench$Tape", "readMachine", "(ILCostBench$Machine;)Z"⟩) ∈ lwg := lwg_t (tb3 206 rfl) rfl
theorem w3_207 : (Cond.selects "CostBench$Tape" ⟨"CostBench$Tape", "readMachine", "(ILCostBench$Machine;)Z"⟩ ⟨"CostBench$Tape", "readMachine", "(ILCostBench$Machine;)Z"⟩) ∈ lwg := lwg_t (tb3 207 rfl) rfl
theorem w1_175 : (Cond.fieldLink "CostBench" (114 : Nat) "CostBench$Tape" "faultAt" "I") ∈ lwg := lwg_t (tb1 175 rfl) rfl
theorem w1_173 : (Cond.fieldLink "CostBench" (123 : Nat) "CostBench$Tape" "faultKind" "I") ∈ lwg := lwg_t (tb1 173 rfl) rfl
theorem w9_111 : (Cond.code ⟨"CostBenchModel", "here", "()I"⟩ prog_14_method_47_code (1 : Nat) (Option.some FieldType.int)) ∈ lwg := lwg_t (tb9 111 rfl) rfl
theorem w9_108 : (Cond.methodLink "CostBenchModel" (329 : Nat) ⟨"CostBenchModel", "here", "()I"⟩) ∈ lwg := lwg_t (tb9 108 rfl) rfl
theorem w9_110 : (Cond.instanceMethod ⟨"CostBenchModel", "here", "()I"⟩) ∈ lwg := lwg_t (tb9 110 rfl) rfl
theorem ws7_2 : Cond.selects "CostBenchModel" ⟨"CostBenchModel", "here", "()I"⟩ ⟨"CostBenchModel", "here", "()I"⟩ ∈ lwg := lwg_s (List.mem_map.mpr ⟨(⟨"CostBenchModel", "here", "()I"⟩, 69), List.mem_append_right _ (List.mem_append_right _ (List.mem_append_right _ (List.mem_append_right _ (List.mem_append_right _ (List.mem_append_right _ (List.mem_append_left _ (List.mem_of_getElem? (i := 2) rfl))))))), rfl⟩) rfl
theorem w9_125 : (Cond.methodLink "CostBenchModel" (341 : Nat) ⟨"java/lang/String", "length", "()I"⟩) ∈ lwg := lwg_t (tb9 125 rfl) rfl
theorem w4_2 : (Cond.code ⟨"java/lang/String", "charAt", "(I)C"⟩ prog_28_method_56_code (2 : Nat) (Option.some FieldType.char)) ∈ lwg := lwg_t (tb4 2 rfl) rfl
theorem w9_126 : (Cond.methodLink "CostBenchModel" (346 : Nat) ⟨"java/lang/String", "charAt", "(I)C"⟩) ∈ lwg := lwg_t (tb9 126 rfl) rfl
theorem w4_0 : (Cond.instanceMethod ⟨"java/lang/String", "charAt", "(I)C"⟩) ∈ lwg := lwg_t (tb4 0 rfl) rfl
theorem w4_1 : (Cond.selects "java/lang/String" ⟨"java/lang/String", "charAt", "(I)C"⟩ ⟨"java/lang/String", "charAt", "(I)C"⟩) ∈ lwg := lwg_t (tb4 1 rfl) rfl
theorem w9_120 : (Cond.code ⟨"CostBenchModel", "takesWord", "(Ljava/lang/String;)Z"⟩ prog_14_method_53_code (3 : Nat) (Option.some FieldType.boolean)) ∈ lwg := lwg_t (tb9 120 rfl) rfl
theorem w9_117 : (Cond.methodLink "CostBenchModel" (355 : Nat) ⟨"CostBenchModel", "takesWord", "(Ljava/lang/String;)Z"⟩) ∈ lwg := lwg_t (tb9 117 rfl) rfl
theorem w9_119 : (Cond.instanceMethod ⟨"CostBenchModel", "takesWord", "(Ljava/lang/String;)Z"⟩) ∈ lwg := lwg_t (tb9 119 rfl) rfl
theorem ws7_4 : Cond.selects "CostBenchModel" ⟨"CostBenchModel", "takesWord", "(Ljava/lang/String;)Z"⟩ ⟨"CostBenchModel", "takesWord", "(Ljava/lang/String;)Z"⟩ ∈ lwg := lwg_s (List.mem_map.mpr ⟨(⟨"CostBenchModel", "takesWord", "(Ljava/lang/String;)Z"⟩, 69), List.mem_append_right _ (List.mem_append_right _ (List.mem_append_right _ (List.mem_append_right _ (List.mem_append_right _ (List.mem_append_right _ (List.mem_append_left _ (List.mem_of_getElem? (i := 4) rfl))))))), rfl⟩) rfl
theorem w9_137 : (Cond.code ⟨"CostBenchModel", "number", "(II)I"⟩ prog_14_method_52_code (5 : Nat) (Option.some FieldType.int)) ∈ lwg := lwg_t (tb9 137 rfl) rfl
theorem w9_134 : (Cond.methodLink "CostBenchModel" (359 : Nat) ⟨"CostBenchModel", "number", "(II)I"⟩) ∈ lwg := lwg_t (tb9 134 rfl) rfl
theorem w9_136 : (Cond.instanceMethod ⟨"CostBenchModel", "number", "(II)I"⟩) ∈ lwg := lwg_t (tb9 136 rfl) rfl
theorem ws7_7 : Cond.selects "CostBenchModel" ⟨"CostBenchModel", "number", "(II)I"⟩ ⟨"CostBenchModel", "number", "(II)I"⟩ ∈ lwg := lwg_s (List.mem_map.mpr ⟨(⟨"CostBenchModel", "number", "(II)I"⟩, 69), List.mem_append_right _ (List.mem_append_right _ (List.mem_append_right _ (List.mem_append_right _ (List.mem_append_right _ (List.mem_append_right _ (List.mem_append_left _ (List.mem_of_getElem? (i := 7) rfl))))))), rfl⟩) rfl
theorem w9_145 : (Cond.code ⟨"CostBenchModel", "endsLine", "()V"⟩ prog_14_method_55_code (1 : Nat) (Option.none : Option FieldType)) ∈ lwg := lwg_t (tb9 145 rfl) rfl
theorem w9_142 : (Cond.methodLink "CostBenchModel" (369 : Nat) ⟨"CostBenchModel", "endsLine", "()V"⟩) ∈ lwg := lwg_t (tb9 142 rfl) rfl
theorem w9_144 : (Cond.instanceMethod ⟨"CostBenchModel", "endsLine", "()V"⟩) ∈ lwg := lwg_t (tb9 144 rfl) rfl
theorem ws7_8 : Cond.selects "CostBenchModel" ⟨"CostBenchModel", "endsLine", "()V"⟩ ⟨"CostBenchModel", "endsLine", "()V"⟩ ∈ lwg := lwg_s (List.mem_map.mpr ⟨(⟨"CostBenchModel", "endsLine", "()V"⟩, 69), List.mem_append_right _ (List.mem_append_right _ (List.mem_append_right _ (List.mem_append_right _ (List.mem_append_right _ (List.mem_append_right _ (List.mem_append_left _ (List.mem_of_getElem? (i := 8) rfl))))))), rfl⟩) rfl
theorem lkV_RX9_115 : zLV "CostBench$Tape" 115 yJ0_length_8abf5 "java/lang/String" cJ0_length_8abf5 1 (some .int) 0 := ⟨w3_229, w3_230, w3_231, w1_21, w3_232, ⟨by decide +kernel, by decide +kernel, by decide +kernel⟩, by decide⟩
theorem lkV_RX9_49 : zLV "CostBench$Tape" 49 yX9_skipBlanks "CostBench$Tape" cX9_skipBlanks 1 none 0 := ⟨w3_216, w3_218, ws1_7, w1_4, w3_219, ⟨by decide +kernel, by decide +kernel, by decide +kernel⟩, by decide⟩
theorem lkV_RX9_59 : zLV "CostBench$Tape" 59 yX9_wordEnd "CostBench$Tape" cX9_wordEnd 2 (some .int) 0 := ⟨w3_220, w3_222, ws1_8, w1_4, w3_223, ⟨by decide +kernel, by decide +kernel, by decide +kernel⟩, by decide⟩
theorem lkV_RX9_65 : zLV "CostBench$Tape" 65 yX9_isWord "CostBench$Tape" cX9_isWord 4 (some .boolean) 2 := ⟨w3_225, w3_227, ws1_9, w1_4, w3_228, ⟨by decide +kernel, by decide +kernel, by decide +kernel⟩, by decide⟩
theorem lkV_RX9_69 : zLV "CostBench$Tape" 69 yX9_fail "CostBench$Tape" cX9_fail 3 (some .boolean) 2 := ⟨w4_37, w4_39, ws1_10, w1_4, w4_40, ⟨by decide +kernel, by decide +kernel, by decide +kernel⟩, by decide⟩
theorem lkV_RX9_45 : zLV "CostBench$Tape" 45 yX9_readHead "CostBench$Tape" cX9_readHead 4 (some .boolean) 1 := ⟨w3_212, w3_214, ws1_6, w1_4, w3_215, ⟨by decide +kernel, by decide +kernel, by decide +kernel⟩, by decide⟩
theorem lkV_RX11_110 : zLV "CostBench" 110 yX9_readMachine "CostBench$Tape" cX9_readMachine 4 (some .boolean) 2 := ⟨w3_205, w3_206, w3_207, w1_4, w3_208, ⟨by decide +kernel, by decide +kernel, by decide +kernel⟩, by decide⟩
theorem lkV_RX12_329 : zLV "CostBenchModel" 329 yX12_here "CostBenchModel" cX12_here 1 (some .int) 0 := ⟨w9_108, w9_110, ws7_2, w1_14, w9_111, ⟨by decide +kernel, by decide +kernel, by decide +kernel⟩, by decide⟩
theorem lkV_RX12_341 : zLV "CostBenchModel" 341 yJ0_length_8abf5 "java/lang/String" cJ0_length_8abf5 1 (some .int) 0 := ⟨w9_125, w3_230, w3_231, w1_21, w3_232, ⟨by decide +kernel, by decide +kernel, by decide +kernel⟩, by decide⟩
theorem lkV_RX12_346 : zLV "CostBenchModel" 346 yJ0_charAt_5068e "java/lang/String" cJ0_charAt_5068e 2 (some .char) 1 := ⟨w9_126, w4_0, w4_1, w1_21, w4_2, ⟨by decide +kernel, by decide +kernel, by decide +kernel⟩, by decide⟩
theorem lkV_RX12_355 : zLV "CostBenchModel" 355 yX12_takesWord "CostBenchModel" cX12_takesWord 3 (some .boolean) 1 := ⟨w9_117, w9_119, ws7_4, w1_14, w9_120, ⟨by decide +kernel, by decide +kernel, by decide +kernel⟩, by decide⟩
theorem lkV_RX12_359 : zLV "CostBenchModel" 359 yX12_number "CostBenchModel" cX12_number 5 (some .int) 2 := ⟨w9_134, w9_136, ws7_7, w1_14, w9_137, ⟨by decide +kernel, by decide +kernel, by decide +kernel⟩, by decide⟩
theorem lkV_RX12_369 : zLV "CostBenchModel" 369 yX12_endsLine "CostBenchModel" cX12_endsLine 1 none 0 := ⟨w9_142, w9_144, ws7_8, w1_14, w9_145, ⟨by decide +kernel, by decide +kernel, by decide +kernel⟩, by decide⟩
theorem dX9_skipBlanks_0 : decode cX9_skipBlanks 0 = .ok (.aload_n 0, 1) := by decide +kernel
theorem dX9_skipBlanks_1 : decode cX9_skipBlanks 1 = .ok (.getfield 36, 3) := by decide +kernel
theorem dX9_skipBlanks_4 : decode cX9_skipBlanks 4 = .ok (.aload_n 0, 1) := by decide +kernel
theorem dX9_skipBlanks_5 : decode cX9_skipBlanks 5 = .ok (.getfield 33, 3) := by decide +kernel
theorem dX9_skipBlanks_8 : decode cX9_skipBlanks 8 = .ok (.if_icmp .ge 30, 3) := by decide +kernel
theorem dX9_skipBlanks_38 : decode cX9_skipBlanks 38 = .ok (.return_, 1) := by decide +kernel
theorem dX9_wordEnd_0 : decode cX9_wordEnd 0 = .ok (.aload_n 0, 1) := by decide +kernel
theorem dX9_wordEnd_1 : decode cX9_wordEnd 1 = .ok (.getfield 36, 3) := by decide +kernel
theorem dX9_wordEnd_4 : decode cX9_wordEnd 4 = .ok (.istore_n 1, 1) := by decide +kernel
theorem dX9_wordEnd_5 : decode cX9_wordEnd 5 = .ok (.iload_n 1, 1) := by decide +kernel
theorem dX9_wordEnd_6 : decode cX9_wordEnd 6 = .ok (.aload_n 0, 1) := by decide +kernel
theorem dX9_wordEnd_7 : decode cX9_wordEnd 7 = .ok (.getfield 33, 3) := by decide +kernel
theorem dX9_wordEnd_10 : decode cX9_wordEnd 10 = .ok (.if_icmp .ge 31, 3) := by decide +kernel
theorem dX9_wordEnd_41 : decode cX9_wordEnd 41 = .ok (.iload_n 1, 1) := by decide +kernel
theorem dX9_wordEnd_42 : decode cX9_wordEnd 42 = .ok (.ireturn, 1) := by decide +kernel
theorem dX9_isWord_0 : decode cX9_isWord 0 = .ok (.iload_n 2, 1) := by decide +kernel
theorem dX9_isWord_1 : decode cX9_isWord 1 = .ok (.aload_n 0, 1) := by decide +kernel
theorem dX9_isWord_2 : decode cX9_isWord 2 = .ok (.getfield 36, 3) := by decide +kernel
theorem dX9_isWord_5 : decode cX9_isWord 5 = .ok (.isub, 1) := by decide +kernel
theorem dX9_isWord_6 : decode cX9_isWord 6 = .ok (.aload_n 1, 1) := by decide +kernel
theorem dX9_isWord_7 : decode cX9_isWord 7 = .ok (.invokevirtual 115, 3) := by decide +kernel
theorem dX9_isWord_10 : decode cX9_isWord 10 = .ok (.if_icmp .eq 5, 3) := by decide +kernel
theorem dX9_isWord_13 : decode cX9_isWord 13 = .ok (.iconst 0, 1) := by decide +kernel
theorem dX9_isWord_14 : decode cX9_isWord 14 = .ok (.ireturn, 1) := by decide +kernel
theorem dX9_fail_0 : decode cX9_fail 0 = .ok (.aload_n 0, 1) := by decide +kernel
theorem dX9_fail_1 : decode cX9_fail 1 = .ok (.iload_n 1, 1) := by decide +kernel
theorem dX9_fail_2 : decode cX9_fail 2 = .ok (.putfield 39, 3) := by decide +kernel
theorem dX9_fail_5 : decode cX9_fail 5 = .ok (.aload_n 0, 1) := by decide +kernel
theorem dX9_fail_6 : decode cX9_fail 6 = .ok (.iload_n 2, 1) := by decide +kernel
theorem dX9_fail_7 : decode cX9_fail 7 = .ok (.putfield 42, 3) := by decide +kernel
theorem dX9_fail_10 : decode cX9_fail 10 = .ok (.iconst 0, 1) := by decide +kernel
theorem dX9_fail_11 : decode cX9_fail 11 = .ok (.ireturn, 1) := by decide +kernel
theorem dX9_readHead_0 : decode cX9_readHead 0 = .ok (.aload_n 0, 1) := by decide +kernel
theorem dX9_readHead_1 : decode cX9_readHead 1 = .ok (.invokevirtual 49, 3) := by decide +kernel
theorem dX9_readHead_4 : decode cX9_readHead 4 = .ok (.aload_n 0, 1) := by decide +kernel
theorem dX9_readHead_5 : decode cX9_readHead 5 = .ok (.invokevirtual 59, 3) := by decide +kernel
theorem dX9_readHead_8 : decode cX9_readHead 8 = .ok (.istore_n 2, 1) := by decide +kernel
theorem dX9_readHead_9 : decode cX9_readHead 9 = .ok (.aload_n 0, 1) := by decide +kernel
theorem dX9_readHead_10 : decode cX9_readHead 10 = .ok (.ldc 63, 2) := by decide +kernel
theorem dX9_readHead_12 : decode cX9_readHead 12 = .ok (.iload_n 2, 1) := by decide +kernel
theorem dX9_readHead_13 : decode cX9_readHead 13 = .ok (.invokevirtual 65, 3) := by decide +kernel
theorem dX9_readHead_16 : decode cX9_readHead 16 = .ok (.ifCond .ne 13, 3) := by decide +kernel
theorem dX9_readHead_19 : decode cX9_readHead 19 = .ok (.aload_n 0, 1) := by decide +kernel
theorem dX9_readHead_20 : decode cX9_readHead 20 = .ok (.iconst 1, 1) := by decide +kernel
theorem dX9_readHead_21 : decode cX9_readHead 21 = .ok (.aload_n 0, 1) := by decide +kernel
theorem dX9_readHead_22 : decode cX9_readHead 22 = .ok (.getfield 36, 3) := by decide +kernel
theorem dX9_readHead_25 : decode cX9_readHead 25 = .ok (.invokevirtual 69, 3) := by decide +kernel
theorem dX9_readHead_28 : decode cX9_readHead 28 = .ok (.ireturn, 1) := by decide +kernel
theorem dX9_readMachine_0 : decode cX9_readMachine 0 = .ok (.aload_n 0, 1) := by decide +kernel
theorem dX9_readMachine_1 : decode cX9_readMachine 1 = .ok (.iload_n 1, 1) := by decide +kernel
theorem dX9_readMachine_2 : decode cX9_readMachine 2 = .ok (.aload_n 0, 1) := by decide +kernel
theorem dX9_readMachine_3 : decode cX9_readMachine 3 = .ok (.getfield 15, 3) := by decide +kernel
theorem dX9_readMachine_6 : decode cX9_readMachine 6 = .ok (.invokestatic 27, 3) := by decide +kernel
theorem dX9_readMachine_9 : decode cX9_readMachine 9 = .ok (.putfield 33, 3) := by decide +kernel
theorem dX9_readMachine_12 : decode cX9_readMachine 12 = .ok (.aload_n 0, 1) := by decide +kernel
theorem dX9_readMachine_13 : decode cX9_readMachine 13 = .ok (.iconst 0, 1) := by decide +kernel
theorem dX9_readMachine_14 : decode cX9_readMachine 14 = .ok (.putfield 36, 3) := by decide +kernel
theorem dX9_readMachine_17 : decode cX9_readMachine 17 = .ok (.aload_n 0, 1) := by decide +kernel
theorem dX9_readMachine_18 : decode cX9_readMachine 18 = .ok (.iconst 0, 1) := by decide +kernel
theorem dX9_readMachine_19 : decode cX9_readMachine 19 = .ok (.putfield 39, 3) := by decide +kernel
theorem dX9_readMachine_22 : decode cX9_readMachine 22 = .ok (.aload_n 0, 1) := by decide +kernel
theorem dX9_readMachine_23 : decode cX9_readMachine 23 = .ok (.iconst (-1), 1) := by decide +kernel
theorem dX9_readMachine_24 : decode cX9_readMachine 24 = .ok (.putfield 42, 3) := by decide +kernel
theorem dX9_readMachine_27 : decode cX9_readMachine 27 = .ok (.aload_n 0, 1) := by decide +kernel
theorem dX9_readMachine_28 : decode cX9_readMachine 28 = .ok (.aload_n 2, 1) := by decide +kernel
theorem dX9_readMachine_29 : decode cX9_readMachine 29 = .ok (.invokevirtual 45, 3) := by decide +kernel
theorem dX9_readMachine_32 : decode cX9_readMachine 32 = .ok (.ifCond .ne 5, 3) := by decide +kernel
theorem dX9_readMachine_35 : decode cX9_readMachine 35 = .ok (.iconst 0, 1) := by decide +kernel
theorem dX9_readMachine_36 : decode cX9_readMachine 36 = .ok (.ireturn, 1) := by decide +kernel
theorem dX11_text_18 : decode cX11_text 18 = .ok (.aload_n 0, 1) := by decide +kernel
theorem dX11_text_19 : decode cX11_text 19 = .ok (.getfield 23, 3) := by decide +kernel
theorem dX11_text_22 : decode cX11_text 22 = .ok (.iload_n 2, 1) := by decide +kernel
theorem dX11_text_23 : decode cX11_text 23 = .ok (.aload_n 0, 1) := by decide +kernel
theorem dX11_text_24 : decode cX11_text 24 = .ok (.getfield 16, 3) := by decide +kernel
theorem dX11_text_27 : decode cX11_text 27 = .ok (.invokevirtual 110, 3) := by decide +kernel
theorem dX11_text_30 : decode cX11_text 30 = .ok (.istore_n 3, 1) := by decide +kernel
theorem dX11_text_31 : decode cX11_text 31 = .ok (.aload_n 0, 1) := by decide +kernel
theorem dX11_text_32 : decode cX11_text 32 = .ok (.aload_n 0, 1) := by decide +kernel
theorem dX11_text_33 : decode cX11_text 33 = .ok (.getfield 23, 3) := by decide +kernel
theorem dX11_text_36 : decode cX11_text 36 = .ok (.getfield 114, 3) := by decide +kernel
theorem dX11_text_39 : decode cX11_text 39 = .ok (.putfield 82, 3) := by decide +kernel
theorem dX11_text_42 : decode cX11_text 42 = .ok (.iload_n 3, 1) := by decide +kernel
theorem dX11_text_43 : decode cX11_text 43 = .ok (.ifCond .eq 8, 3) := by decide +kernel
theorem dX11_text_51 : decode cX11_text 51 = .ok (.aload_n 0, 1) := by decide +kernel
theorem dX11_text_52 : decode cX11_text 52 = .ok (.getfield 23, 3) := by decide +kernel
theorem dX11_text_55 : decode cX11_text 55 = .ok (.iconst 0, 1) := by decide +kernel
theorem dX11_text_56 : decode cX11_text 56 = .ok (.putfield 103, 3) := by decide +kernel
theorem dX11_text_59 : decode cX11_text 59 = .ok (.iload_n 3, 1) := by decide +kernel
theorem dX11_text_60 : decode cX11_text 60 = .ok (.ifCond .eq 15, 3) := by decide +kernel
theorem dX11_text_75 : decode cX11_text 75 = .ok (.aload_n 0, 1) := by decide +kernel
theorem dX11_text_76 : decode cX11_text 76 = .ok (.getfield 23, 3) := by decide +kernel
theorem dX11_text_79 : decode cX11_text 79 = .ok (.getfield 123, 3) := by decide +kernel
theorem dX11_text_82 : decode cX11_text 82 = .ok (.bipush 10, 2) := by decide +kernel
theorem dX11_text_84 : decode cX11_text 84 = .ok (.isub, 1) := by decide +kernel
theorem dX11_text_85 : decode cX11_text 85 = .ok (.ireturn, 1) := by decide +kernel
theorem dX12_here_0 : decode cX12_here 0 = .ok (.aload_n 0, 1) := by decide +kernel
theorem dX12_here_1 : decode cX12_here 1 = .ok (.aload_n 0, 1) := by decide +kernel
theorem dX12_here_2 : decode cX12_here 2 = .ok (.getfield 313, 3) := by decide +kernel
theorem dX12_here_5 : decode cX12_here 5 = .ok (.invokevirtual 316, 3) := by decide +kernel
theorem dX12_here_8 : decode cX12_here 8 = .ok (.bipush 32, 2) := by decide +kernel
theorem dX12_here_10 : decode cX12_here 10 = .ok (.if_icmp .ne 16, 3) := by decide +kernel
theorem dX12_here_26 : decode cX12_here 26 = .ok (.aload_n 0, 1) := by decide +kernel
theorem dX12_here_27 : decode cX12_here 27 = .ok (.aload_n 0, 1) := by decide +kernel
theorem dX12_here_28 : decode cX12_here 28 = .ok (.getfield 313, 3) := by decide +kernel
theorem dX12_here_31 : decode cX12_here 31 = .ok (.invokevirtual 316, 3) := by decide +kernel
theorem dX12_here_34 : decode cX12_here 34 = .ok (.ireturn, 1) := by decide +kernel
theorem dX12_takesWord_0 : decode cX12_takesWord 0 = .ok (.aload_n 0, 1) := by decide +kernel
theorem dX12_takesWord_1 : decode cX12_takesWord 1 = .ok (.invokevirtual 325, 3) := by decide +kernel
theorem dX12_takesWord_4 : decode cX12_takesWord 4 = .ok (.ifCond .ne 5, 3) := by decide +kernel
theorem dX12_takesWord_9 : decode cX12_takesWord 9 = .ok (.aload_n 0, 1) := by decide +kernel
theorem dX12_takesWord_10 : decode cX12_takesWord 10 = .ok (.invokevirtual 329, 3) := by decide +kernel
theorem dX12_takesWord_13 : decode cX12_takesWord 13 = .ok (.pop, 1) := by decide +kernel
theorem dX12_takesWord_14 : decode cX12_takesWord 14 = .ok (.iconst 0, 1) := by decide +kernel
theorem dX12_takesWord_15 : decode cX12_takesWord 15 = .ok (.istore_n 2, 1) := by decide +kernel
theorem dX12_takesWord_16 : decode cX12_takesWord 16 = .ok (.iload_n 2, 1) := by decide +kernel
theorem dX12_takesWord_17 : decode cX12_takesWord 17 = .ok (.aload_n 1, 1) := by decide +kernel
theorem dX12_takesWord_18 : decode cX12_takesWord 18 = .ok (.invokevirtual 341, 3) := by decide +kernel
theorem dX12_takesWord_21 : decode cX12_takesWord 21 = .ok (.if_icmp .ge 27, 3) := by decide +kernel
theorem dX12_takesWord_24 : decode cX12_takesWord 24 = .ok (.aload_n 0, 1) := by decide +kernel
theorem dX12_takesWord_25 : decode cX12_takesWord 25 = .ok (.aload_n 0, 1) := by decide +kernel
theorem dX12_takesWord_26 : decode cX12_takesWord 26 = .ok (.getfield 313, 3) := by decide +kernel
theorem dX12_takesWord_29 : decode cX12_takesWord 29 = .ok (.iload_n 2, 1) := by decide +kernel
theorem dX12_takesWord_30 : decode cX12_takesWord 30 = .ok (.iadd, 1) := by decide +kernel
theorem dX12_takesWord_31 : decode cX12_takesWord 31 = .ok (.invokevirtual 316, 3) := by decide +kernel
theorem dX12_takesWord_34 : decode cX12_takesWord 34 = .ok (.aload_n 1, 1) := by decide +kernel
theorem dX12_takesWord_35 : decode cX12_takesWord 35 = .ok (.iload_n 2, 1) := by decide +kernel
theorem dX12_takesWord_36 : decode cX12_takesWord 36 = .ok (.invokevirtual 346, 3) := by decide +kernel
theorem dX12_takesWord_39 : decode cX12_takesWord 39 = .ok (.if_icmp .ne 9, 3) := by decide +kernel
theorem dX12_takesWord_48 : decode cX12_takesWord 48 = .ok (.iload_n 2, 1) := by decide +kernel
theorem dX12_takesWord_49 : decode cX12_takesWord 49 = .ok (.aload_n 1, 1) := by decide +kernel
theorem dX12_takesWord_50 : decode cX12_takesWord 50 = .ok (.invokevirtual 341, 3) := by decide +kernel
theorem dX12_takesWord_53 : decode cX12_takesWord 53 = .ok (.if_icmp .lt 19, 3) := by decide +kernel
theorem dX12_takesWord_72 : decode cX12_takesWord 72 = .ok (.iconst 0, 1) := by decide +kernel
theorem dX12_takesWord_73 : decode cX12_takesWord 73 = .ok (.ireturn, 1) := by decide +kernel
theorem dX12_number_0 : decode cX12_number 0 = .ok (.aload_n 0, 1) := by decide +kernel
theorem dX12_number_1 : decode cX12_number 1 = .ok (.invokevirtual 325, 3) := by decide +kernel
theorem dX12_number_4 : decode cX12_number 4 = .ok (.ifCond .ne 5, 3) := by decide +kernel
theorem dX12_number_7 : decode cX12_number 7 = .ok (.iload_n 1, 1) := by decide +kernel
theorem dX12_number_8 : decode cX12_number 8 = .ok (.ireturn, 1) := by decide +kernel
theorem dX12_endsLine_0 : decode cX12_endsLine 0 = .ok (.aload_n 0, 1) := by decide +kernel
theorem dX12_endsLine_1 : decode cX12_endsLine 1 = .ok (.invokevirtual 325, 3) := by decide +kernel
theorem dX12_endsLine_4 : decode cX12_endsLine 4 = .ok (.ifCond .ne 4, 3) := by decide +kernel
theorem dX12_endsLine_7 : decode cX12_endsLine 7 = .ok (.return_, 1) := by decide +kernel
theorem dX12_text_43 : decode cX12_text 43 = .ok (.iconst 0, 1) := by decide +kernel
theorem dX12_text_54 : decode cX12_text 54 = .ok (.aload_n 0, 1) := by decide +kernel
theorem dX12_text_55 : decode cX12_text 55 = .ok (.iload_n 2, 1) := by decide +kernel
theorem dX12_text_56 : decode cX12_text 56 = .ok (.invokevirtual 372, 3) := by decide +kernel
theorem dX12_text_59 : decode cX12_text 59 = .ok (.aload_n 0, 1) := by decide +kernel
theorem dX12_text_60 : decode cX12_text 60 = .ok (.invokevirtual 329, 3) := by decide +kernel
theorem dX12_text_63 : decode cX12_text 63 = .ok (.pop, 1) := by decide +kernel
theorem dX12_text_64 : decode cX12_text 64 = .ok (.aload_n 0, 1) := by decide +kernel
theorem dX12_text_65 : decode cX12_text 65 = .ok (.getfield 313, 3) := by decide +kernel
theorem dX12_text_68 : decode cX12_text 68 = .ok (.istore_n 3, 1) := by decide +kernel
theorem dX12_text_69 : decode cX12_text 69 = .ok (.aload_n 0, 1) := by decide +kernel
theorem dX12_text_70 : decode cX12_text 70 = .ok (.ldc_w 375, 3) := by decide +kernel
theorem dX12_text_73 : decode cX12_text 73 = .ok (.invokevirtual 355, 3) := by decide +kernel
theorem dX12_text_76 : decode cX12_text 76 = .ok (.ifCond .ne 9, 3) := by decide +kernel
theorem dX12_text_79 : decode cX12_text 79 = .ok (.aload_n 0, 1) := by decide +kernel
theorem dX12_text_80 : decode cX12_text 80 = .ok (.iconst 1, 1) := by decide +kernel
theorem dX12_text_81 : decode cX12_text 81 = .ok (.iload_n 3, 1) := by decide +kernel
theorem dX12_text_82 : decode cX12_text 82 = .ok (.invokevirtual 336, 3) := by decide +kernel
theorem dX12_text_85 : decode cX12_text 85 = .ok (.aload_n 0, 1) := by decide +kernel
theorem dX12_text_86 : decode cX12_text 86 = .ok (.iconst 1, 1) := by decide +kernel
theorem dX12_text_87 : decode cX12_text 87 = .ok (.bipush 12, 2) := by decide +kernel
theorem dX12_text_89 : decode cX12_text 89 = .ok (.invokevirtual 359, 3) := by decide +kernel
theorem dX12_text_92 : decode cX12_text 92 = .ok (.istore 4, 2) := by decide +kernel
theorem dX12_text_94 : decode cX12_text 94 = .ok (.aload_n 0, 1) := by decide +kernel
theorem dX12_text_95 : decode cX12_text 95 = .ok (.invokevirtual 369, 3) := by decide +kernel
theorem dX12_text_98 : decode cX12_text 98 = .ok (.aload_n 0, 1) := by decide +kernel
theorem dX12_text_99 : decode cX12_text 99 = .ok (.iload 4, 2) := by decide +kernel
theorem dX12_text_101 : decode cX12_text 101 = .ok (.invokevirtual 195, 3) := by decide +kernel
theorem dX12_text_104 : decode cX12_text 104 = .ok (.aload_n 0, 1) := by decide +kernel
theorem dX12_text_105 : decode cX12_text 105 = .ok (.invokevirtual 325, 3) := by decide +kernel
theorem dX12_text_108 : decode cX12_text 108 = .ok (.ifCond .eq 18, 3) := by decide +kernel
theorem dX12_text_126 : decode cX12_text 126 = .ok (.aload_n 0, 1) := by decide +kernel
theorem dX12_text_127 : decode cX12_text 127 = .ok (.aload_n 0, 1) := by decide +kernel
theorem dX12_text_128 : decode cX12_text 128 = .ok (.getfield 322, 3) := by decide +kernel
theorem dX12_text_131 : decode cX12_text 131 = .ok (.putfield 13, 3) := by decide +kernel
theorem dX12_text_134 : decode cX12_text 134 = .ok (.aload_n 0, 1) := by decide +kernel
theorem dX12_text_135 : decode cX12_text 135 = .ok (.invokevirtual 325, 3) := by decide +kernel
theorem dX12_text_138 : decode cX12_text 138 = .ok (.ifCond .ne 11, 3) := by decide +kernel
theorem dX12_text_141 : decode cX12_text 141 = .ok (.aload_n 0, 1) := by decide +kernel
theorem dX12_text_142 : decode cX12_text 142 = .ok (.getfield 319, 3) := by decide +kernel
theorem dX12_text_145 : decode cX12_text 145 = .ok (.bipush 10, 2) := by decide +kernel
theorem dX12_text_147 : decode cX12_text 147 = .ok (.isub, 1) := by decide +kernel
theorem dX12_text_148 : decode cX12_text 148 = .ok (.ireturn, 1) := by decide +kernel
theorem dL_text_8 : decode cL_text 8 = .ok (.i2l, 1) := by decide +kernel
theorem dL_text_9 : decode cL_text 9 = .ok (.lastore, 1) := by decide +kernel
theorem dL_text_10 : decode cL_text 10 = .ok (.goto 11, 3) := by decide +kernel
theorem dL_text_21 : decode cL_text 21 = .ok (.iconst 0, 1) := by decide +kernel
theorem dL_text_22 : decode cL_text 22 = .ok (.ireturn, 1) := by decide +kernel
set_option maxHeartbeats 4000000 in
set_option maxRecDepth 100000 in
theorem k1026_X9_skipBlanks (l : Launch) (G : va_G) (cy : Nat → ClassId) (h0 h1 : Nat) : zV l G cy yX9_skipBlanks cX9_skipBlanks 1 none 0 0 0 [.ref h0] [(h0, .inr (9, [.int 0, .ref h1, .int 0, .int (-1), .int 0, .int 0]))] (fun _ => [(h0, .inr (9, [.int 0, .ref h1, .int 0, .int (-1), .int 0, .int 0]))]) := by
  refine zM.of (by decide) (Nat.le_of_ble_eq_true rfl) ?_
  intro p e s m args below meth c ls A hx hb hml hown hts hlk hr hin hl hK hA hT
  have hown : s.vm.findClass "CostBench$Tape" = some m.cls := hown
  have hl : lv_has ls 1 [(0, .ref h0)] := hl
  refine lv_aload_n (pc := 0) hx hb dX9_skipBlanks_0 rfl (lv_at hl 0 rfl) ?_
  refine z_get (pc := 1) hx hb hts hown hK hT 0 9 5 rfl rfl (by decide) rfl w1_178 rfl dX9_skipBlanks_1 ?_
  refine lv_aload_n (pc := 4) hx hb dX9_skipBlanks_4 rfl (lv_at hl 0 rfl) ?_
  refine z_get (pc := 5) hx hb hts hown hK hT 0 9 4 rfl rfl (by decide) rfl w1_177 rfl dX9_skipBlanks_5 ?_
  refine zb_icmp_ge_t (pc := 8) (tgt := 38) hx hb dX9_skipBlanks_8 (by decide) (by decide) ?_
  exact z_vret (pc := 38) hx hb hr hlk hT (fun _ _ => 0) [0] rfl rfl (Nat.le_of_ble_eq_true rfl) (Nat.le_of_ble_eq_true rfl) dX9_skipBlanks_38
set_option maxHeartbeats 4000000 in
set_option maxRecDepth 100000 in
theorem k1027_X9_wordEnd (l : Launch) (G : va_G) (cy : Nat → ClassId) (h0 h1 : Nat) : zI l G cy yX9_wordEnd cX9_wordEnd 2 (some .int) 0 0 0 [.ref h0] [(h0, .inr (9, [.int 0, .ref h1, .int 0, .int (-1), .int 0, .int 0]))] 0 (fun _ => [(h0, .inr (9, [.int 0, .ref h1, .int 0, .int (-1), .int 0, .int 0]))]) := by
  refine zM.of (by decide) (Nat.le_of_ble_eq_true rfl) ?_
  intro p e s m args below meth c ls A hx hb hml hown hts hlk hr hin hl hK hA hT
  have hown : s.vm.findClass "CostBench$Tape" = some m.cls := hown
  have hl : lv_has ls 2 [(0, .ref h0)] := hl
  refine lv_aload_n (pc := 0) hx hb dX9_wordEnd_0 rfl (lv_at hl 0 rfl) ?_
  refine z_get (pc := 1) hx hb hts hown hK hT 0 9 5 rfl rfl (by decide) rfl w1_178 rfl dX9_wordEnd_1 ?_
  refine lv_istore_n (pc := 4) (lv' := [(1, .int 0), (0, .ref h0)]) hx hb dX9_wordEnd_4 rfl hl (by decide) rfl (fun ls hl => ?_)
  refine lv_iload_n (pc := 5) hx hb dX9_wordEnd_5 rfl (lv_at hl 0 rfl) ?_
  refine lv_aload_n (pc := 6) hx hb dX9_wordEnd_6 rfl (lv_at hl 1 rfl) ?_
  refine z_get (pc := 7) hx hb hts hown hK hT 0 9 4 rfl rfl (by decide) rfl w1_177 rfl dX9_wordEnd_7 ?_
  refine zb_icmp_ge_t (pc := 10) (tgt := 41) hx hb dX9_wordEnd_10 (by decide) (by decide) ?_
  refine lv_iload_n (pc := 41) hx hb dX9_wordEnd_41 rfl (lv_at hl 0 rfl) ?_
  exact z_iret (pc := 42) hx hb hr hlk hT (fun _ _ => 0) [0] rfl rfl rfl (Nat.le_of_ble_eq_true rfl) (Nat.le_of_ble_eq_true rfl) dX9_wordEnd_42
set_option maxHeartbeats 4000000 in
set_option maxRecDepth 100000 in
theorem k1028_X9_isWord (l : Launch) (G : va_G) (cy : Nat → ClassId) (q1 v1 q2 v2 : Nat) (h0 h1 : Nat) : zNI' (zS q1 v1 q2 v2) l G cy yX9_isWord cX9_isWord 4 (some .boolean) 2 0 0 [.ref h0, .ref q1, .int 0] [(h0, .inr (9, [.int 0, .ref h1, .int 0, .int (-1), .int 0, .int 0]))] 0 (fun _ => [(h0, .inr (9, [.int 0, .ref h1, .int 0, .int (-1), .int 0, .int 0]))]) := by
  refine zN.of (by decide) (Nat.le_of_ble_eq_true rfl) ?_
  intro p e s m args below meth c ls A hx hb hml hown hts hlk hr hl hK hE hA hT
  have hown : s.vm.findClass "CostBench$Tape" = some m.cls := hown
  have hl : lv_has ls 4 [(0, .ref h0), (1, .ref q1), (2, .int 0)] := hl
  refine lv_iload_n (pc := 0) hx hb dX9_isWord_0 rfl (lv_at hl 2 rfl) ?_
  refine lv_aload_n (pc := 1) hx hb dX9_isWord_1 rfl (lv_at hl 0 rfl) ?_
  refine z_get (pc := 2) hx hb hts hown hK hT 0 9 5 rfl rfl (by decide) rfl w1_178 rfl dX9_isWord_2 ?_
  refine z_isub (pc := 5) (v := 0) hx hb dX9_isWord_5 (by decide) ?_
  refine lv_aload_n (pc := 6) hx hb dX9_isWord_6 rfl (lv_at hl 1 rfl) ?_
  refine z_eWI (pc := 7) zW_ok hE.2.1 hx hb hml hown hts hK hA hT lkV_RX9_115 (ks_length l G cy q1 v1) [] [0] rfl rfl rfl rfl rfl hE.2.1.1 (by decide) rfl hl.1 rfl (Nat.le_of_ble_eq_true rfl) dX9_isWord_7 ⟨Nat.le_of_ble_eq_true rfl, Nat.le_of_ble_eq_true rfl⟩ (fun _ => [(h0, .inr (9, [.int 0, .ref h1, .int 0, .int (-1), .int 0, .int 0]))]) (fun _ => rfl) (fun _ H locs hT => ?_)
  refine zb_icmp_eq_f (pc := 10) (tgt := 15) hx hb dX9_isWord_10 (by decide) (by decide) ?_
  refine lv_iconst (pc := 13) (v := 0) hx hb dX9_isWord_13 (by decide) ?_
  exact z_zret (pc := 14) hx hb hr hlk hT (fun _ _ => 0) [0] rfl rfl rfl rfl (Nat.le_of_ble_eq_true rfl) (Nat.le_of_ble_eq_true rfl) dX9_isWord_14
set_option maxHeartbeats 4000000 in
set_option maxRecDepth 100000 in
theorem k1029_X9_fail (l : Launch) (G : va_G) (cy : Nat → ClassId) (h0 h1 : Nat) : zI l G cy yX9_fail cX9_fail 3 (some .boolean) 0 0 0 [.ref h0, .int 1, .int 0] [(h0, .inr (9, [.int 0, .ref h1, .int 0, .int (-1), .int 0, .int 0]))] 0 (fun _ => [(h0, .inr (9, [.int 0, .ref h1, .int 1, .int 0, .int 0, .int 0]))]) := by
  refine zM.of (by decide) (Nat.le_of_ble_eq_true rfl) ?_
  intro p e s m args below meth c ls A hx hb hml hown hts hlk hr hin hl hK hA hT
  have hown : s.vm.findClass "CostBench$Tape" = some m.cls := hown
  have hl : lv_has ls 3 [(0, .ref h0), (1, .int 1), (2, .int 0)] := hl
  refine lv_aload_n (pc := 0) hx hb dX9_fail_0 rfl (lv_at hl 0 rfl) ?_
  refine lv_iload_n (pc := 1) hx hb dX9_fail_1 rfl (lv_at hl 1 rfl) ?_
  refine z_put (pc := 2) (ty := .int) hx hb hts hown hK hT 0 9 2 (by decide +kernel) rfl rfl rfl rfl (by decide) rfl w1_174 (Nat.le_of_ble_eq_true rfl) dX9_fail_2 [(h0, .inr (9, [.int 0, .ref h1, .int 1, .int (-1), .int 0, .int 0]))] rfl (fun H locs hT => ?_)
  refine lv_aload_n (pc := 5) hx hb dX9_fail_5 rfl (lv_at hl 0 rfl) ?_
  refine lv_iload_n (pc := 6) hx hb dX9_fail_6 rfl (lv_at hl 2 rfl) ?_
  refine z_put (pc := 7) (ty := .int) hx hb hts hown hK hT 0 9 3 (by decide +kernel) rfl rfl rfl rfl (by decide) rfl w1_176 (Nat.le_of_ble_eq_true rfl) dX9_fail_7 [(h0, .inr (9, [.int 0, .ref h1, .int 1, .int 0, .int 0, .int 0]))] rfl (fun H locs hT => ?_)
  refine lv_iconst (pc := 10) (v := 0) hx hb dX9_fail_10 (by decide) ?_
  exact z_zret (pc := 11) hx hb hr hlk hT (fun _ _ => 0) [0] rfl rfl rfl rfl (Nat.le_of_ble_eq_true rfl) (Nat.le_of_ble_eq_true rfl) dX9_fail_11
set_option maxHeartbeats 4000000 in
set_option maxRecDepth 100000 in
theorem k1030_X9_readHead (l : Launch) (G : va_G) (cy : Nat → ClassId) (q1 v1 q2 v2 : Nat) (h0 h1 h2 : Nat) : zNI' (zS q1 v1 q2 v2) l G cy yX9_readHead cX9_readHead 4 (some .boolean) 3 0 0 [.ref h0, .ref h1] [(h0, .inr (9, [.int 0, .ref h2, .int 0, .int (-1), .int 0, .int 0]))] 0 (fun _ => [(h0, .inr (9, [.int 0, .ref h2, .int 1, .int 0, .int 0, .int 0]))]) := by
  refine zN.of (by decide) (Nat.le_of_ble_eq_true rfl) ?_
  intro p e s m args below meth c ls A hx hb hml hown hts hlk hr hl hK hE hA hT
  have hown : s.vm.findClass "CostBench$Tape" = some m.cls := hown
  have hl : lv_has ls 4 [(0, .ref h0), (1, .ref h1)] := hl
  refine lv_aload_n (pc := 0) hx hb dX9_readHead_0 rfl (lv_at hl 0 rfl) ?_
  refine z_cVV (pc := 1) hx hb hml hown hts hK hA hT lkV_RX9_49 (k1026_X9_skipBlanks l G cy h0 h2) [0] [] rfl rfl rfl rfl rfl 0 rfl rfl (by decide) rfl hl.1 rfl (Nat.le_of_ble_eq_true rfl) dX9_readHead_1 ⟨Nat.le_of_ble_eq_true rfl, Nat.le_of_ble_eq_true rfl⟩ (fun _ => [(h0, .inr (9, [.int 0, .ref h2, .int 0, .int (-1), .int 0, .int 0]))]) (fun _ => rfl) (fun qs1 H locs hT => ?_)
  refine lv_aload_n (pc := 4) hx hb dX9_readHead_4 rfl (lv_at hl 0 rfl) ?_
  refine z_cVI (pc := 5) hx hb hml hown hts hK hA hT lkV_RX9_59 (k1027_X9_wordEnd l G cy h0 h2) [0] [] rfl rfl rfl rfl rfl 0 rfl rfl (by decide) rfl hl.1 rfl (Nat.le_of_ble_eq_true rfl) dX9_readHead_5 ⟨Nat.le_of_ble_eq_true rfl, Nat.le_of_ble_eq_true rfl⟩ (fun _ => [(h0, .inr (9, [.int 0, .ref h2, .int 0, .int (-1), .int 0, .int 0]))]) (fun _ => rfl) (fun qs2 H locs hT => ?_)
  refine lv_istore_n (pc := 8) (lv' := [(2, .int 0), (0, .ref h0), (1, .ref h1)]) hx hb dX9_readHead_8 rfl hl (by decide) rfl (fun ls hl => ?_)
  refine lv_aload_n (pc := 9) hx hb dX9_readHead_9 rfl (lv_at hl 1 rfl) ?_
  refine va_ldcS (pc := 10) hx hb hown hE.1.1 dX9_readHead_10 ?_
  refine lv_iload_n (pc := 12) hx hb dX9_readHead_12 rfl (lv_at hl 0 rfl) ?_
  refine z_eVI (pc := 13) zS_ok hE hx hb hml hown hts hK hA hT lkV_RX9_65 (k1028_X9_isWord l G cy q1 v1 q2 v2 h0 h2) [0] [] rfl rfl rfl rfl rfl 0 rfl rfl (by decide) rfl hl.1 rfl (Nat.le_of_ble_eq_true rfl) dX9_readHead_13 ⟨Nat.le_of_ble_eq_true rfl, Nat.le_of_ble_eq_true rfl⟩ (fun _ => [(h0, .inr (9, [.int 0, .ref h2, .int 0, .int (-1), .int 0, .int 0]))]) (fun _ => rfl) (fun qs3 H locs hT => ?_)
  refine zb_if_ne_f (pc := 16) (tgt := 29) hx hb dX9_readHead_16 (by decide) (by decide) ?_
  refine lv_aload_n (pc := 19) hx hb dX9_readHead_19 rfl (lv_at hl 1 rfl) ?_
  refine lv_iconst (pc := 20) (v := 1) hx hb dX9_readHead_20 (by decide) ?_
  refine lv_aload_n (pc := 21) hx hb dX9_readHead_21 rfl (lv_at hl 1 rfl) ?_
  refine z_get (pc := 22) hx hb hts hown hK hT 0 9 5 rfl rfl (by decide) rfl w1_178 rfl dX9_readHead_22 ?_
  refine z_cVI (pc := 25) hx hb hml hown hts hK hA hT lkV_RX9_69 (k1029_X9_fail l G cy h0 h2) [0] [] rfl rfl rfl rfl rfl 0 rfl rfl (by decide) rfl hl.1 rfl (Nat.le_of_ble_eq_true rfl) dX9_readHead_25 ⟨Nat.le_of_ble_eq_true rfl, Nat.le_of_ble_eq_true rfl⟩ (fun _ => [(h0, .inr (9, [.int 0, .ref h2, .int 1, .int 0, .int 0, .int 0]))]) (fun _ => rfl) (fun qs4 H locs hT => ?_)
  exact z_zret (pc := 28) hx hb hr hlk hT (fun _ _ => 0) [0] rfl rfl rfl rfl (Nat.le_of_ble_eq_true rfl) (Nat.le_of_ble_eq_true rfl) dX9_readHead_28
set_option maxHeartbeats 4000000 in
set_option maxRecDepth 100000 in
theorem k1031_X9_readMachine (l : Launch) (G : va_G) (cy : Nat → ClassId) (q1 v1 q2 v2 : Nat) (h0 h1 h2 : Nat) : zNI' (zS q1 v1 q2 v2) l G cy yX9_readMachine cX9_readMachine 4 (some .boolean) 4 0 0 [.ref h0, .int 0, .ref h1] [(h0, .inr (9, [.int 0, .ref h2, .int 0, .int 0, .int 0, .int 0]))] 0 (fun _ => [(h0, .inr (9, [.int 0, .ref h2, .int 1, .int 0, .int 0, .int 0]))]) := by
  refine zN.of (by decide) (Nat.le_of_ble_eq_true rfl) ?_
  intro p e s m args below meth c ls A hx hb hml hown hts hlk hr hl hK hE hA hT
  have hown : s.vm.findClass "CostBench$Tape" = some m.cls := hown
  have hl : lv_has ls 4 [(0, .ref h0), (1, .int 0), (2, .ref h1)] := hl
  refine lv_aload_n (pc := 0) hx hb dX9_readMachine_0 rfl (lv_at hl 0 rfl) ?_
  refine lv_iload_n (pc := 1) hx hb dX9_readMachine_1 rfl (lv_at hl 1 rfl) ?_
  refine lv_aload_n (pc := 2) hx hb dX9_readMachine_2 rfl (lv_at hl 0 rfl) ?_
  refine z_get (pc := 3) hx hb hts hown hK hT 0 9 0 rfl rfl (by decide) rfl w1_167 rfl dX9_readMachine_3 ?_
  refine z_mmin (pc := 6) (v := 0) hx hb hml hown hts w3_209 hl.1 (Nat.le_of_ble_eq_true rfl) (Nat.le_of_ble_eq_true rfl) (Nat.le_of_ble_eq_true rfl) (by decide) dX9_readMachine_6 ?_
  refine z_put (pc := 9) (ty := .int) hx hb hts hown hK hT 0 9 4 (by decide +kernel) rfl rfl rfl rfl (by decide) rfl w1_177 (Nat.le_of_ble_eq_true rfl) dX9_readMachine_9 [(h0, .inr (9, [.int 0, .ref h2, .int 0, .int 0, .int 0, .int 0]))] rfl (fun H locs hT => ?_)
  refine lv_aload_n (pc := 12) hx hb dX9_readMachine_12 rfl (lv_at hl 0 rfl) ?_
  refine lv_iconst (pc := 13) (v := 0) hx hb dX9_readMachine_13 (by decide) ?_
  refine z_put (pc := 14) (ty := .int) hx hb hts hown hK hT 0 9 5 (by decide +kernel) rfl rfl rfl rfl (by decide) rfl w1_178 (Nat.le_of_ble_eq_true rfl) dX9_readMachine_14 [(h0, .inr (9, [.int 0, .ref h2, .int 0, .int 0, .int 0, .int 0]))] rfl (fun H locs hT => ?_)
  refine lv_aload_n (pc := 17) hx hb dX9_readMachine_17 rfl (lv_at hl 0 rfl) ?_
  refine lv_iconst (pc := 18) (v := 0) hx hb dX9_readMachine_18 (by decide) ?_
  refine z_put (pc := 19) (ty := .int) hx hb hts hown hK hT 0 9 2 (by decide +kernel) rfl rfl rfl rfl (by decide) rfl w1_174 (Nat.le_of_ble_eq_true rfl) dX9_readMachine_19 [(h0, .inr (9, [.int 0, .ref h2, .int 0, .int 0, .int 0, .int 0]))] rfl (fun H locs hT => ?_)
  refine lv_aload_n (pc := 22) hx hb dX9_readMachine_22 rfl (lv_at hl 0 rfl) ?_
  refine lv_iconst (pc := 23) (v := (-1)) hx hb dX9_readMachine_23 (by decide) ?_
  refine z_put (pc := 24) (ty := .int) hx hb hts hown hK hT 0 9 3 (by decide +kernel) rfl rfl rfl rfl (by decide) rfl w1_176 (Nat.le_of_ble_eq_true rfl) dX9_readMachine_24 [(h0, .inr (9, [.int 0, .ref h2, .int 0, .int (-1), .int 0, .int 0]))] rfl (fun H locs hT => ?_)
  refine lv_aload_n (pc := 27) hx hb dX9_readMachine_27 rfl (lv_at hl 0 rfl) ?_
  refine lv_aload_n (pc := 28) hx hb dX9_readMachine_28 rfl (lv_at hl 2 rfl) ?_
  refine z_eVI (pc := 29) zS_ok hE hx hb hml hown hts hK hA hT lkV_RX9_45 (k1030_X9_readHead l G cy q1 v1 q2 v2 h0 h1 h2) [0] [] rfl rfl rfl rfl rfl 0 rfl rfl (by decide) rfl hl.1 rfl (Nat.le_of_ble_eq_true rfl) dX9_readMachine_29 ⟨Nat.le_of_ble_eq_true rfl, Nat.le_of_ble_eq_true rfl⟩ (fun _ => [(h0, .inr (9, [.int 0, .ref h2, .int 1, .int 0, .int 0, .int 0]))]) (fun _ => rfl) (fun qs1 H locs hT => ?_)
  refine zb_if_ne_f (pc := 32) (tgt := 37) hx hb dX9_readMachine_32 (by decide) (by decide) ?_
  refine lv_iconst (pc := 35) (v := 0) hx hb dX9_readMachine_35 (by decide) ?_
  exact z_zret (pc := 36) hx hb hr hlk hT (fun _ _ => 0) [0] rfl rfl rfl rfl (Nat.le_of_ble_eq_true rfl) (Nat.le_of_ble_eq_true rfl) dX9_readMachine_36
set_option maxHeartbeats 4000000 in
set_option maxRecDepth 100000 in
theorem k1032_X11_text (l : Launch) (G : va_G) (cy : Nat → ClassId) (q1 v1 q2 v2 : Nat) (h0 h1 h2 h3 h4 h5 h6 h7 h8 h9 h10 h11 h12 : Nat) (n0 : Nat) (hlon0 : 0 ≤ n0) (hhin0 : n0 < 6) : zNI' (zS q1 v1 q2 v2) l G cy yX11_text cX11_text 4 (some .int) 5 0 0 [.ref h0, .int (nI n0), .int 0] [(h0, .inr (11, [.ref h2, .ref h3, .ref h1, .ref h4, .ref h5, .ref h6, .ref h7, .ref h8, .ref h9, .ref h10, .ref h11, .int (-1), .int (-1), .int (-1), .int (-1)])), (h1, .inr (9, [.int 0, .ref h12, .int 0, .int 0, .int 0, .int 0]))] (-9) (fun _ => []) := by
  refine zN.of (by decide) (Nat.le_of_ble_eq_true rfl) ?_
  intro p e s m args below meth c ls A hx hb hml hown hts hlk hr hl hK hE hA hT
  have hown : s.vm.findClass "CostBench" = some m.cls := hown
  have hl : lv_has ls 4 [(0, .ref h0), (1, .int (nI n0)), (2, .int 0)] := hl
  refine lv_aload_n (pc := 0) hx hb dX11_text_0 rfl (lv_at hl 0 rfl) ?_
  refine lv_iload_n (pc := 1) hx hb dX11_text_1 rfl (lv_at hl 1 rfl) ?_
  refine z_cVV (pc := 2) hx hb hml hown hts hK hA hT lkV_RX11_99 (k26_X11_checkSlot l G cy h0 h2 h3 h1 h4 h5 h6 h7 h8 h9 h10 h11 n0 (by omega) (by omega)) [0] [1] rfl rfl rfl rfl rfl 0 rfl rfl (by decide) rfl hl.1 rfl (Nat.le_of_ble_eq_true rfl) dX11_text_2 ⟨Nat.le_of_ble_eq_true rfl, Nat.le_of_ble_eq_true rfl⟩ (fun _ => [(h1, .inr (9, [.int 0, .ref h12, .int 0, .int 0, .int 0, .int 0])), (h0, .inr (11, [.ref h2, .ref h3, .ref h1, .ref h4, .ref h5, .ref h6, .ref h7, .ref h8, .ref h9, .ref h10, .ref h11, .int (-1), .int (-1), .int (-1), .int (-1)]))]) (fun _ => rfl) (fun qs1 H locs hT => ?_)
  refine lv_aload_n (pc := 5) hx hb dX11_text_5 rfl (lv_at hl 0 rfl) ?_
  refine lv_iload_n (pc := 6) hx hb dX11_text_6 rfl (lv_at hl 2 rfl) ?_
  refine lv_iconst (pc := 7) (v := 0) hx hb dX11_text_7 (by decide) ?_
  refine lv_aload_n (pc := 8) hx hb dX11_text_8 rfl (lv_at hl 0 rfl) ?_
  refine z_get (pc := 9) hx hb hts hown hK hT 1 11 2 rfl rfl (by decide) rfl w3_11 rfl dX11_text_9 ?_
  refine z_get (pc := 12) hx hb hts hown hK hT 0 9 0 rfl rfl (by decide) rfl w1_169 rfl dX11_text_12 ?_
  refine z_cVV (pc := 15) hx hb hml hown hts hK hA hT lkV_RX11_106 (k194_X11_checkValue l G cy h0 h2 h3 h1 h4 h5 h6 h7 h8 h9 h10 h11) [1] [0] rfl rfl rfl rfl rfl 0 rfl rfl (by decide) rfl hl.1 rfl (Nat.le_of_ble_eq_true rfl) dX11_text_15 ⟨Nat.le_of_ble_eq_true rfl, Nat.le_of_ble_eq_true rfl⟩ (fun _ => [(h1, .inr (9, [.int 0, .ref h12, .int 0, .int 0, .int 0, .int 0])), (h0, .inr (11, [.ref h2, .ref h3, .ref h1, .ref h4, .ref h5, .ref h6, .ref h7, .ref h8, .ref h9, .ref h10, .ref h11, .int (-1), .int (-1), .int (-1), .int (-1)]))]) (fun _ => rfl) (fun qs2 H locs hT => ?_)
  refine lv_aload_n (pc := 18) hx hb dX11_text_18 rfl (lv_at hl 0 rfl) ?_
  refine z_get (pc := 19) hx hb hts hown hK hT 1 11 2 rfl rfl (by decide) rfl w3_11 rfl dX11_text_19 ?_
  refine lv_iload_n (pc := 22) hx hb dX11_text_22 rfl (lv_at hl 2 rfl) ?_
  refine lv_aload_n (pc := 23) hx hb dX11_text_23 rfl (lv_at hl 0 rfl) ?_
  refine z_get (pc := 24) hx hb hts hown hK hT 1 11 1 rfl rfl (by decide) rfl w3_10 rfl dX11_text_24 ?_
  refine z_eVI (pc := 27) zS_ok hE hx hb hml hown hts hK hA hT lkV_RX11_110 (k1031_X9_readMachine l G cy q1 v1 q2 v2 h1 h3 h12) [0] [1] rfl rfl rfl rfl rfl 0 rfl rfl (by decide) rfl hl.1 rfl (Nat.le_of_ble_eq_true rfl) dX11_text_27 ⟨Nat.le_of_ble_eq_true rfl, Nat.le_of_ble_eq_true rfl⟩ (fun _ => [(h0, .inr (11, [.ref h2, .ref h3, .ref h1, .ref h4, .ref h5, .ref h6, .ref h7, .ref h8, .ref h9, .ref h10, .ref h11, .int (-1), .int (-1), .int (-1), .int (-1)])), (h1, .inr (9, [.int 0, .ref h12, .int 1, .int 0, .int 0, .int 0]))]) (fun _ => rfl) (fun qs3 H locs hT => ?_)
  refine lv_istore_n (pc := 30) (lv' := [(3, .int 0), (0, .ref h0), (1, .int (nI n0)), (2, .int 0)]) hx hb dX11_text_30 rfl hl (by decide) rfl (fun ls hl => ?_)
  refine lv_aload_n (pc := 31) hx hb dX11_text_31 rfl (lv_at hl 1 rfl) ?_
  refine lv_aload_n (pc := 32) hx hb dX11_text_32 rfl (lv_at hl 1 rfl) ?_
  refine z_get (pc := 33) hx hb hts hown hK hT 0 11 2 rfl rfl (by decide) rfl w3_11 rfl dX11_text_33 ?_
  refine z_get (pc := 36) hx hb hts hown hK hT 1 9 3 rfl rfl (by decide) rfl w1_175 rfl dX11_text_36 ?_
  refine z_put (pc := 39) (ty := .int) hx hb hts hown hK hT 0 11 11 (by decide +kernel) rfl rfl rfl rfl (by decide) rfl w3_20 (Nat.le_of_ble_eq_true rfl) dX11_text_39 [(h0, .inr (11, [.ref h2, .ref h3, .ref h1, .ref h4, .ref h5, .ref h6, .ref h7, .ref h8, .ref h9, .ref h10, .ref h11, .int 0, .int (-1), .int (-1), .int (-1)])), (h1, .inr (9, [.int 0, .ref h12, .int 1, .int 0, .int 0, .int 0]))] rfl (fun H locs hT => ?_)
  refine lv_iload_n (pc := 42) hx hb dX11_text_42 rfl (lv_at hl 0 rfl) ?_
  refine zb_if_eq_t (pc := 43) (tgt := 51) hx hb dX11_text_43 (by decide) (by decide) ?_
  refine lv_aload_n (pc := 51) hx hb dX11_text_51 rfl (lv_at hl 1 rfl) ?_
  refine z_get (pc := 52) hx hb hts hown hK hT 0 11 2 rfl rfl (by decide) rfl w3_11 rfl dX11_text_52 ?_
  refine lv_iconst (pc := 55) (v := 0) hx hb dX11_text_55 (by decide) ?_
  refine z_put (pc := 56) (ty := .int) hx hb hts hown hK hT 1 9 0 (by decide +kernel) rfl rfl rfl rfl (by decide) rfl w1_169 (Nat.le_of_ble_eq_true rfl) dX11_text_56 [(h0, .inr (11, [.ref h2, .ref h3, .ref h1, .ref h4, .ref h5, .ref h6, .ref h7, .ref h8, .ref h9, .ref h10, .ref h11, .int 0, .int (-1), .int (-1), .int (-1)])), (h1, .inr (9, [.int 0, .ref h12, .int 1, .int 0, .int 0, .int 0]))] rfl (fun H locs hT => ?_)
  refine lv_iload_n (pc := 59) hx hb dX11_text_59 rfl (lv_at hl 0 rfl) ?_
  refine zb_if_eq_t (pc := 60) (tgt := 75) hx hb dX11_text_60 (by decide) (by decide) ?_
  refine lv_aload_n (pc := 75) hx hb dX11_text_75 rfl (lv_at hl 1 rfl) ?_
  refine z_get (pc := 76) hx hb hts hown hK hT 0 11 2 rfl rfl (by decide) rfl w3_11 rfl dX11_text_76 ?_
  refine z_get (pc := 79) hx hb hts hown hK hT 1 9 2 rfl rfl (by decide) rfl w1_173 rfl dX11_text_79 ?_
  refine lv_bipush (pc := 82) (v := 10) hx hb dX11_text_82 (by decide) ?_
  refine z_isub (pc := 84) (v := (-9)) hx hb dX11_text_84 (by decide) ?_
  exact z_iret (pc := 85) hx hb hr hlk hT (fun _ _ => 0) [] rfl rfl rfl (Nat.le_of_ble_eq_true rfl) (Nat.le_of_ble_eq_true rfl) dX11_text_85
set_option maxHeartbeats 4000000 in
set_option maxRecDepth 100000 in
theorem k1033_X12_here (l : Launch) (G : va_G) (cy : Nat → ClassId) (h0 h1 h2 h3 h4 h5 h6 h7 h8 h9 h10 h11 h12 h13 h14 h15 h16 h17 h18 h19 h20 h21 h22 h23 h24 h25 h26 h27 h28 h29 h30 h31 h32 h33 h34 h35 h36 h37 h38 h39 h40 h41 h42 h43 : Nat) : zI l G cy yX12_here cX12_here 1 (some .int) 1 0 0 [.ref h0] [(h0, .inr (12, [.int 0, .ref h1, .int 0, .int 0, .int 0, .int (-1), .int 0, .int (-1), .ref h2, .ref h3, .ref h4, .ref h5, .int 0, .ref h6, .ref h7, .int 0, .ref h8, .ref h9, .ref h10, .ref h11, .ref h12, .int 0, .ref h13, .ref h14, .ref h15, .int 0, .ref h16, .ref h17, .ref h18, .int 0, .int 0, .ref h19, .ref h20, .ref h21, .int 0, .long 0, .long 0, .ref h22, .ref h23, .ref h24, .ref h25, .ref h26, .ref h27, .ref h28, .ref h29, .ref h30, .ref h31, .int 0, .int 0, .ref h32, .ref h33, .ref h34, .ref h35, .ref h36, .ref h37, .ref h38, .ref h39, .ref h40, .int 0, .int 0, .int 0, .int 0, .long 0, .ref h41, .ref h42, .ref h43, .int 0, .int 0, .long 0]))] (-1) (fun _ => [(h0, .inr (12, [.int 0, .ref h1, .int 0, .int 0, .int 0, .int (-1), .int 0, .int (-1), .ref h2, .ref h3, .ref h4, .ref h5, .int 0, .ref h6, .ref h7, .int 0, .ref h8, .ref h9, .ref h10, .ref h11, .ref h12, .int 0, .ref h13, .ref h14, .ref h15, .int 0, .ref h16, .ref h17, .ref h18, .int 0, .int 0, .ref h19, .ref h20, .ref h21, .int 0, .long 0, .long 0, .ref h22, .ref h23, .ref h24, .ref h25, .ref h26, .ref h27, .ref h28, .ref h29, .ref h30, .ref h31, .int 0, .int 0, .ref h32, .ref h33, .ref h34, .ref h35, .ref h36, .ref h37, .ref h38, .ref h39, .ref h40, .int 0, .int 0, .int 0, .int 0, .long 0, .ref h41, .ref h42, .ref h43, .int 0, .int 0, .long 0]))]) := by
  refine zM.of (by decide) (Nat.le_of_ble_eq_true rfl) ?_
  intro p e s m args below meth c ls A hx hb hml hown hts hlk hr hin hl hK hA hT
  have hown : s.vm.findClass "CostBenchModel" = some m.cls := hown
  have hl : lv_has ls 1 [(0, .ref h0)] := hl
  refine lv_aload_n (pc := 0) hx hb dX12_here_0 rfl (lv_at hl 0 rfl) ?_
  refine lv_aload_n (pc := 1) hx hb dX12_here_1 rfl (lv_at hl 0 rfl) ?_
  refine z_get (pc := 2) hx hb hts hown hK hT 0 12 4 rfl rfl (by decide) rfl w7_211 rfl dX12_here_2 ?_
  refine z_cVI (pc := 5) hx hb hml hown hts hK hA hT lkV_RX12_316 (k444_X12_byteAt l G cy h0 h1 h2 h3 h4 h5 h6 h7 h8 h9 h10 h11 h12 h13 h14 h15 h16 h17 h18 h19 h20 h21 h22 h23 h24 h25 h26 h27 h28 h29 h30 h31 h32 h33 h34 h35 h36 h37 h38 h39 h40 h41 h42 h43) [0] [] rfl rfl rfl rfl rfl 0 rfl rfl (by decide) rfl hl.1 rfl (Nat.le_of_ble_eq_true rfl) dX12_here_5 ⟨Nat.le_of_ble_eq_true rfl, Nat.le_of_ble_eq_true rfl⟩ (fun _ => [(h0, .inr (12, [.int 0, .ref h1, .int 0, .int 0, .int 0, .int (-1), .int 0, .int (-1), .ref h2, .ref h3, .ref h4, .ref h5, .int 0, .ref h6, .ref h7, .int 0, .ref h8, .ref h9, .ref h10, .ref h11, .ref h12, .int 0, .ref h13, .ref h14, .ref h15, .int 0, .ref h16, .ref h17, .ref h18, .int 0, .int 0, .ref h19, .ref h20, .ref h21, .int 0, .long 0, .long 0, .ref h22, .ref h23, .ref h24, .ref h25, .ref h26, .ref h27, .ref h28, .ref h29, .ref h30, .ref h31, .int 0, .int 0, .ref h32, .ref h33, .ref h34, .ref h35, .ref h36, .ref h37, .ref h38, .ref h39, .ref h40, .int 0, .int 0, .int 0, .int 0, .long 0, .ref h41, .ref h42, .ref h43, .int 0, .int 0, .long 0]))]) (fun _ => rfl) (fun qs1 H locs hT => ?_)
  refine lv_bipush (pc := 8) (v := 32) hx hb dX12_here_8 (by decide) ?_
  refine zb_icmp_ne_t (pc := 10) (tgt := 26) hx hb dX12_here_10 (by decide) (by decide) ?_
  refine lv_aload_n (pc := 26) hx hb dX12_here_26 rfl (lv_at hl 0 rfl) ?_
  refine lv_aload_n (pc := 27) hx hb dX12_here_27 rfl (lv_at hl 0 rfl) ?_
  refine z_get (pc := 28) hx hb hts hown hK hT 0 12 4 rfl rfl (by decide) rfl w7_211 rfl dX12_here_28 ?_
  refine z_cVI (pc := 31) hx hb hml hown hts hK hA hT lkV_RX12_316 (k444_X12_byteAt l G cy h0 h1 h2 h3 h4 h5 h6 h7 h8 h9 h10 h11 h12 h13 h14 h15 h16 h17 h18 h19 h20 h21 h22 h23 h24 h25 h26 h27 h28 h29 h30 h31 h32 h33 h34 h35 h36 h37 h38 h39 h40 h41 h42 h43) [0] [] rfl rfl rfl rfl rfl 0 rfl rfl (by decide) rfl hl.1 rfl (Nat.le_of_ble_eq_true rfl) dX12_here_31 ⟨Nat.le_of_ble_eq_true rfl, Nat.le_of_ble_eq_true rfl⟩ (fun _ => [(h0, .inr (12, [.int 0, .ref h1, .int 0, .int 0, .int 0, .int (-1), .int 0, .int (-1), .ref h2, .ref h3, .ref h4, .ref h5, .int 0, .ref h6, .ref h7, .int 0, .ref h8, .ref h9, .ref h10, .ref h11, .ref h12, .int 0, .ref h13, .ref h14, .ref h15, .int 0, .ref h16, .ref h17, .ref h18, .int 0, .int 0, .ref h19, .ref h20, .ref h21, .int 0, .long 0, .long 0, .ref h22, .ref h23, .ref h24, .ref h25, .ref h26, .ref h27, .ref h28, .ref h29, .ref h30, .ref h31, .int 0, .int 0, .ref h32, .ref h33, .ref h34, .ref h35, .ref h36, .ref h37, .ref h38, .ref h39, .ref h40, .int 0, .int 0, .int 0, .int 0, .long 0, .ref h41, .ref h42, .ref h43, .int 0, .int 0, .long 0]))]) (fun _ => rfl) (fun qs2 H locs hT => ?_)
  exact z_iret (pc := 34) hx hb hr hlk hT (fun _ _ => 0) [0] rfl rfl rfl (Nat.le_of_ble_eq_true rfl) (Nat.le_of_ble_eq_true rfl) dX12_here_34
set_option maxHeartbeats 4000000 in
set_option maxRecDepth 100000 in
theorem k1034_X12_takesWord (l : Launch) (G : va_G) (cy : Nat → ClassId) (q1 v1 q2 v2 : Nat) (h0 h1 h2 h3 h4 h5 h6 h7 h8 h9 h10 h11 h12 h13 h14 h15 h16 h17 h18 h19 h20 h21 h22 h23 h24 h25 h26 h27 h28 h29 h30 h31 h32 h33 h34 h35 h36 h37 h38 h39 h40 h41 h42 h43 : Nat) : zNI' (zS q1 v1 q2 v2) l G cy yX12_takesWord cX12_takesWord 3 (some .boolean) 4 0 0 [.ref h0, .ref q2] [(h0, .inr (12, [.int 0, .ref h1, .int 0, .int 0, .int 0, .int (-1), .int 0, .int (-1), .ref h2, .ref h3, .ref h4, .ref h5, .int 0, .ref h6, .ref h7, .int 0, .ref h8, .ref h9, .ref h10, .ref h11, .ref h12, .int 0, .ref h13, .ref h14, .ref h15, .int 0, .ref h16, .ref h17, .ref h18, .int 0, .int 0, .ref h19, .ref h20, .ref h21, .int 0, .long 0, .long 0, .ref h22, .ref h23, .ref h24, .ref h25, .ref h26, .ref h27, .ref h28, .ref h29, .ref h30, .ref h31, .int 0, .int 0, .ref h32, .ref h33, .ref h34, .ref h35, .ref h36, .ref h37, .ref h38, .ref h39, .ref h40, .int 0, .int 0, .int 0, .int 0, .long 0, .ref h41, .ref h42, .ref h43, .int 0, .int 0, .long 0]))] 0 (fun _ => [(h0, .inr (12, [.int 0, .ref h1, .int 0, .int 0, .int 0, .int (-1), .int 0, .int (-1), .ref h2, .ref h3, .ref h4, .ref h5, .int 0, .ref h6, .ref h7, .int 0, .ref h8, .ref h9, .ref h10, .ref h11, .ref h12, .int 0, .ref h13, .ref h14, .ref h15, .int 0, .ref h16, .ref h17, .ref h18, .int 0, .int 0, .ref h19, .ref h20, .ref h21, .int 0, .long 0, .long 0, .ref h22, .ref h23, .ref h24, .ref h25, .ref h26, .ref h27, .ref h28, .ref h29, .ref h30, .ref h31, .int 0, .int 0, .ref h32, .ref h33, .ref h34, .ref h35, .ref h36, .ref h37, .ref h38, .ref h39, .ref h40, .int 0, .int 0, .int 0, .int 0, .long 0, .ref h41, .ref h42, .ref h43, .int 0, .int 0, .long 0]))]) := by
  refine zN.of (by decide) (Nat.le_of_ble_eq_true rfl) ?_
  intro p e s m args below meth c ls A hx hb hml hown hts hlk hr hl hK hE hA hT
  have hown : s.vm.findClass "CostBenchModel" = some m.cls := hown
  have hl : lv_has ls 3 [(0, .ref h0), (1, .ref q2)] := hl
  refine lv_aload_n (pc := 0) hx hb dX12_takesWord_0 rfl (lv_at hl 0 rfl) ?_
  refine z_cVI (pc := 1) hx hb hml hown hts hK hA hT lkV_RX12_325 (k443_X12_fine l G cy h0 h1 h2 h3 h4 h5 h6 h7 h8 h9 h10 h11 h12 h13 h14 h15 h16 h17 h18 h19 h20 h21 h22 h23 h24 h25 h26 h27 h28 h29 h30 h31 h32 h33 h34 h35 h36 h37 h38 h39 h40 h41 h42 h43) [0] [] rfl rfl rfl rfl rfl 0 rfl rfl (by decide) rfl hl.1 rfl (Nat.le_of_ble_eq_true rfl) dX12_takesWord_1 ⟨Nat.le_of_ble_eq_true rfl, Nat.le_of_ble_eq_true rfl⟩ (fun _ => [(h0, .inr (12, [.int 0, .ref h1, .int 0, .int 0, .int 0, .int (-1), .int 0, .int (-1), .ref h2, .ref h3, .ref h4, .ref h5, .int 0, .ref h6, .ref h7, .int 0, .ref h8, .ref h9, .ref h10, .ref h11, .ref h12, .int 0, .ref h13, .ref h14, .ref h15, .int 0, .ref h16, .ref h17, .ref h18, .int 0, .int 0, .ref h19, .ref h20, .ref h21, .int 0, .long 0, .long 0, .ref h22, .ref h23, .ref h24, .ref h25, .ref h26, .ref h27, .ref h28, .ref h29, .ref h30, .ref h31, .int 0, .int 0, .ref h32, .ref h33, .ref h34, .ref h35, .ref h36, .ref h37, .ref h38, .ref h39, .ref h40, .int 0, .int 0, .int 0, .int 0, .long 0, .ref h41, .ref h42, .ref h43, .int 0, .int 0, .long 0]))]) (fun _ => rfl) (fun qs1 H locs hT => ?_)
  refine zb_if_ne_t (pc := 4) (tgt := 9) hx hb dX12_takesWord_4 (by decide) (by decide) ?_
  refine lv_aload_n (pc := 9) hx hb dX12_takesWord_9 rfl (lv_at hl 0 rfl) ?_
  refine z_cVI (pc := 10) hx hb hml hown hts hK hA hT lkV_RX12_329 (k1033_X12_here l G cy h0 h1 h2 h3 h4 h5 h6 h7 h8 h9 h10 h11 h12 h13 h14 h15 h16 h17 h18 h19 h20 h21 h22 h23 h24 h25 h26 h27 h28 h29 h30 h31 h32 h33 h34 h35 h36 h37 h38 h39 h40 h41 h42 h43) [0] [] rfl rfl rfl rfl rfl 0 rfl rfl (by decide) rfl hl.1 rfl (Nat.le_of_ble_eq_true rfl) dX12_takesWord_10 ⟨Nat.le_of_ble_eq_true rfl, Nat.le_of_ble_eq_true rfl⟩ (fun _ => [(h0, .inr (12, [.int 0, .ref h1, .int 0, .int 0, .int 0, .int (-1), .int 0, .int (-1), .ref h2, .ref h3, .ref h4, .ref h5, .int 0, .ref h6, .ref h7, .int 0, .ref h8, .ref h9, .ref h10, .ref h11, .ref h12, .int 0, .ref h13, .ref h14, .ref h15, .int 0, .ref h16, .ref h17, .ref h18, .int 0, .int 0, .ref h19, .ref h20, .ref h21, .int 0, .long 0, .long 0, .ref h22, .ref h23, .ref h24, .ref h25, .ref h26, .ref h27, .ref h28, .ref h29, .ref h30, .ref h31, .int 0, .int 0, .ref h32, .ref h33, .ref h34, .ref h35, .ref h36, .ref h37, .ref h38, .ref h39, .ref h40, .int 0, .int 0, .int 0, .int 0, .long 0, .ref h41, .ref h42, .ref h43, .int 0, .int 0, .long 0]))]) (fun _ => rfl) (fun qs2 H locs hT => ?_)
  refine lv_pop (pc := 13) hx hb dX12_takesWord_13 rfl ?_
  refine lv_iconst (pc := 14) (v := 0) hx hb dX12_takesWord_14 (by decide) ?_
  refine lv_istore_n (pc := 15) (lv' := [(2, .int 0), (0, .ref h0), (1, .ref q2)]) hx hb dX12_takesWord_15 rfl hl (by decide) rfl (fun ls hl => ?_)
  refine lv_iload_n (pc := 16) hx hb dX12_takesWord_16 rfl (lv_at hl 0 rfl) ?_
  refine lv_aload_n (pc := 17) hx hb dX12_takesWord_17 rfl (lv_at hl 2 rfl) ?_
  refine z_eWI (pc := 18) zW_ok hE.2.2 hx hb hml hown hts hK hA hT lkV_RX12_341 (ks_length l G cy q2 v2) [] [0] rfl rfl rfl rfl rfl hE.2.2.1 (by decide) rfl hl.1 rfl (Nat.le_of_ble_eq_true rfl) dX12_takesWord_18 ⟨Nat.le_of_ble_eq_true rfl, Nat.le_of_ble_eq_true rfl⟩ (fun _ => [(h0, .inr (12, [.int 0, .ref h1, .int 0, .int 0, .int 0, .int (-1), .int 0, .int (-1), .ref h2, .ref h3, .ref h4, .ref h5, .int 0, .ref h6, .ref h7, .int 0, .ref h8, .ref h9, .ref h10, .ref h11, .ref h12, .int 0, .ref h13, .ref h14, .ref h15, .int 0, .ref h16, .ref h17, .ref h18, .int 0, .int 0, .ref h19, .ref h20, .ref h21, .int 0, .long 0, .long 0, .ref h22, .ref h23, .ref h24, .ref h25, .ref h26, .ref h27, .ref h28, .ref h29, .ref h30, .ref h31, .int 0, .int 0, .ref h32, .ref h33, .ref h34, .ref h35, .ref h36, .ref h37, .ref h38, .ref h39, .ref h40, .int 0, .int 0, .int 0, .int 0, .long 0, .ref h41, .ref h42, .ref h43, .int 0, .int 0, .long 0]))]) (fun _ => rfl) (fun _ H locs hT => ?_)
  refine zb_icmp_ge_f (pc := 21) (tgt := 48) hx hb dX12_takesWord_21 (by decide) (by decide) ?_
  refine lv_aload_n (pc := 24) hx hb dX12_takesWord_24 rfl (lv_at hl 1 rfl) ?_
  refine lv_aload_n (pc := 25) hx hb dX12_takesWord_25 rfl (lv_at hl 1 rfl) ?_
  refine z_get (pc := 26) hx hb hts hown hK hT 0 12 4 rfl rfl (by decide) rfl w7_211 rfl dX12_takesWord_26 ?_
  refine lv_iload_n (pc := 29) hx hb dX12_takesWord_29 rfl (lv_at hl 0 rfl) ?_
  refine z_iadd (pc := 30) (v := 0) hx hb dX12_takesWord_30 (by decide) ?_
  refine z_cVI (pc := 31) hx hb hml hown hts hK hA hT lkV_RX12_316 (k444_X12_byteAt l G cy h0 h1 h2 h3 h4 h5 h6 h7 h8 h9 h10 h11 h12 h13 h14 h15 h16 h17 h18 h19 h20 h21 h22 h23 h24 h25 h26 h27 h28 h29 h30 h31 h32 h33 h34 h35 h36 h37 h38 h39 h40 h41 h42 h43) [0] [] rfl rfl rfl rfl rfl 0 rfl rfl (by decide) rfl hl.1 rfl (Nat.le_of_ble_eq_true rfl) dX12_takesWord_31 ⟨Nat.le_of_ble_eq_true rfl, Nat.le_of_ble_eq_true rfl⟩ (fun _ => [(h0, .inr (12, [.int 0, .ref h1, .int 0, .int 0, .int 0, .int (-1), .int 0, .int (-1), .ref h2, .ref h3, .ref h4, .ref h5, .int 0, .ref h6, .ref h7, .int 0, .ref h8, .ref h9, .ref h10, .ref h11, .ref h12, .int 0, .ref h13, .ref h14, .ref h15, .int 0, .ref h16, .ref h17, .ref h18, .int 0, .int 0, .ref h19, .ref h20, .ref h21, .int 0, .long 0, .long 0, .ref h22, .ref h23, .ref h24, .ref h25, .ref h26, .ref h27, .ref h28, .ref h29, .ref h30, .ref h31, .int 0, .int 0, .ref h32, .ref h33, .ref h34, .ref h35, .ref h36, .ref h37, .ref h38, .ref h39, .ref h40, .int 0, .int 0, .int 0, .int 0, .long 0, .ref h41, .ref h42, .ref h43, .int 0, .int 0, .long 0]))]) (fun _ => rfl) (fun qs3 H locs hT => ?_)
  refine lv_aload_n (pc := 34) hx hb dX12_takesWord_34 rfl (lv_at hl 2 rfl) ?_
  refine lv_iload_n (pc := 35) hx hb dX12_takesWord_35 rfl (lv_at hl 0 rfl) ?_
  refine z_eWI (pc := 36) zW_ok hE.2.2 hx hb hml hown hts hK hA hT lkV_RX12_346 (ks_charAt l G cy q2 v2) [] [0] rfl rfl rfl rfl rfl hE.2.2.1 (by decide) rfl hl.1 rfl (Nat.le_of_ble_eq_true rfl) dX12_takesWord_36 ⟨Nat.le_of_ble_eq_true rfl, Nat.le_of_ble_eq_true rfl⟩ (fun _ => [(h0, .inr (12, [.int 0, .ref h1, .int 0, .int 0, .int 0, .int (-1), .int 0, .int (-1), .ref h2, .ref h3, .ref h4, .ref h5, .int 0, .ref h6, .ref h7, .int 0, .ref h8, .ref h9, .ref h10, .ref h11, .ref h12, .int 0, .ref h13, .ref h14, .ref h15, .int 0, .ref h16, .ref h17, .ref h18, .int 0, .int 0, .ref h19, .ref h20, .ref h21, .int 0, .long 0, .long 0, .ref h22, .ref h23, .ref h24, .ref h25, .ref h26, .ref h27, .ref h28, .ref h29, .ref h30, .ref h31, .int 0, .int 0, .ref h32, .ref h33, .ref h34, .ref h35, .ref h36, .ref h37, .ref h38, .ref h39, .ref h40, .int 0, .int 0, .int 0, .int 0, .long 0, .ref h41, .ref h42, .ref h43, .int 0, .int 0, .long 0]))]) (fun _ => rfl) (fun _ H locs hT => ?_)
  refine zb_icmp_ne_t (pc := 39) (tgt := 48) hx hb dX12_takesWord_39 (by decide) (by decide) ?_
  refine lv_iload_n (pc := 48) hx hb dX12_takesWord_48 rfl (lv_at hl 0 rfl) ?_
  refine lv_aload_n (pc := 49) hx hb dX12_takesWord_49 rfl (lv_at hl 2 rfl) ?_
  refine z_eWI (pc := 50) zW_ok hE.2.2 hx hb hml hown hts hK hA hT lkV_RX12_341 (ks_length l G cy q2 v2) [] [0] rfl rfl rfl rfl rfl hE.2.2.1 (by decide) rfl hl.1 rfl (Nat.le_of_ble_eq_true rfl) dX12_takesWord_50 ⟨Nat.le_of_ble_eq_true rfl, Nat.le_of_ble_eq_true rfl⟩ (fun _ => [(h0, .inr (12, [.int 0, .ref h1, .int 0, .int 0, .int 0, .int (-1), .int 0, .int (-1), .ref h2, .ref h3, .ref h4, .ref h5, .int 0, .ref h6, .ref h7, .int 0, .ref h8, .ref h9, .ref h10, .ref h11, .ref h12, .int 0, .ref h13, .ref h14, .ref h15, .int 0, .ref h16, .ref h17, .ref h18, .int 0, .int 0, .ref h19, .ref h20, .ref h21, .int 0, .long 0, .long 0, .ref h22, .ref h23, .ref h24, .ref h25, .ref h26, .ref h27, .ref h28, .ref h29, .ref h30, .ref h31, .int 0, .int 0, .ref h32, .ref h33, .ref h34, .ref h35, .ref h36, .ref h37, .ref h38, .ref h39, .ref h40, .int 0, .int 0, .int 0, .int 0, .long 0, .ref h41, .ref h42, .ref h43, .int 0, .int 0, .long 0]))]) (fun _ => rfl) (fun _ H locs hT => ?_)
  refine zb_icmp_lt_t (pc := 53) (tgt := 72) hx hb dX12_takesWord_53 (by decide) (by decide) ?_
  refine lv_iconst (pc := 72) (v := 0) hx hb dX12_takesWord_72 (by decide) ?_
  exact z_zret (pc := 73) hx hb hr hlk hT (fun _ _ => 0) [0] rfl rfl rfl rfl (Nat.le_of_ble_eq_true rfl) (Nat.le_of_ble_eq_true rfl) dX12_takesWord_73
set_option maxHeartbeats 4000000 in
set_option maxRecDepth 100000 in
theorem k1035_X12_wrong (l : Launch) (G : va_G) (cy : Nat → ClassId) (h0 h1 h2 h3 h4 h5 h6 h7 h8 h9 h10 h11 h12 h13 h14 h15 h16 h17 h18 h19 h20 h21 h22 h23 h24 h25 h26 h27 h28 h29 h30 h31 h32 h33 h34 h35 h36 h37 h38 h39 h40 h41 h42 h43 : Nat) : zV l G cy yX12_wrong cX12_wrong 3 none 0 0 0 [.ref h0, .int 1, .int 0] [(h0, .inr (12, [.int 0, .ref h1, .int 0, .int 0, .int 0, .int (-1), .int 0, .int (-1), .ref h2, .ref h3, .ref h4, .ref h5, .int 0, .ref h6, .ref h7, .int 0, .ref h8, .ref h9, .ref h10, .ref h11, .ref h12, .int 0, .ref h13, .ref h14, .ref h15, .int 0, .ref h16, .ref h17, .ref h18, .int 0, .int 0, .ref h19, .ref h20, .ref h21, .int 0, .long 0, .long 0, .ref h22, .ref h23, .ref h24, .ref h25, .ref h26, .ref h27, .ref h28, .ref h29, .ref h30, .ref h31, .int 0, .int 0, .ref h32, .ref h33, .ref h34, .ref h35, .ref h36, .ref h37, .ref h38, .ref h39, .ref h40, .int 0, .int 0, .int 0, .int 0, .long 0, .ref h41, .ref h42, .ref h43, .int 0, .int 0, .long 0]))] (fun _ => [(h0, .inr (12, [.int 0, .ref h1, .int 0, .int 0, .int 0, .int (-1), .int 1, .int 0, .ref h2, .ref h3, .ref h4, .ref h5, .int 0, .ref h6, .ref h7, .int 0, .ref h8, .ref h9, .ref h10, .ref h11, .ref h12, .int 0, .ref h13, .ref h14, .ref h15, .int 0, .ref h16, .ref h17, .ref h18, .int 0, .int 0, .ref h19, .ref h20, .ref h21, .int 0, .long 0, .long 0, .ref h22, .ref h23, .ref h24, .ref h25, .ref h26, .ref h27, .ref h28, .ref h29, .ref h30, .ref h31, .int 0, .int 0, .ref h32, .ref h33, .ref h34, .ref h35, .ref h36, .ref h37, .ref h38, .ref h39, .ref h40, .int 0, .int 0, .int 0, .int 0, .long 0, .ref h41, .ref h42, .ref h43, .int 0, .int 0, .long 0]))]) := by
  refine zM.of (by decide) (Nat.le_of_ble_eq_true rfl) ?_
  intro p e s m args below meth c ls A hx hb hml hown hts hlk hr hin hl hK hA hT
  have hown : s.vm.findClass "CostBenchModel" = some m.cls := hown
  have hl : lv_has ls 3 [(0, .ref h0), (1, .int 1), (2, .int 0)] := hl
  refine lv_aload_n (pc := 0) hx hb dX12_wrong_0 rfl (lv_at hl 0 rfl) ?_
  refine z_get (pc := 1) hx hb hts hown hK hT 0 12 6 rfl rfl (by decide) rfl w7_213 rfl dX12_wrong_1 ?_
  refine zb_if_ne_f (pc := 4) (tgt := 17) hx hb dX12_wrong_4 (by decide) (by decide) ?_
  refine lv_aload_n (pc := 7) hx hb dX12_wrong_7 rfl (lv_at hl 0 rfl) ?_
  refine lv_iload_n (pc := 8) hx hb dX12_wrong_8 rfl (lv_at hl 1 rfl) ?_
  refine z_put (pc := 9) (ty := .int) hx hb hts hown hK hT 0 12 6 (by decide +kernel) rfl rfl rfl rfl (by decide) rfl w7_213 (Nat.le_of_ble_eq_true rfl) dX12_wrong_9 [(h0, .inr (12, [.int 0, .ref h1, .int 0, .int 0, .int 0, .int (-1), .int 1, .int (-1), .ref h2, .ref h3, .ref h4, .ref h5, .int 0, .ref h6, .ref h7, .int 0, .ref h8, .ref h9, .ref h10, .ref h11, .ref h12, .int 0, .ref h13, .ref h14, .ref h15, .int 0, .ref h16, .ref h17, .ref h18, .int 0, .int 0, .ref h19, .ref h20, .ref h21, .int 0, .long 0, .long 0, .ref h22, .ref h23, .ref h24, .ref h25, .ref h26, .ref h27, .ref h28, .ref h29, .ref h30, .ref h31, .int 0, .int 0, .ref h32, .ref h33, .ref h34, .ref h35, .ref h36, .ref h37, .ref h38, .ref h39, .ref h40, .int 0, .int 0, .int 0, .int 0, .long 0, .ref h41, .ref h42, .ref h43, .int 0, .int 0, .long 0]))] rfl (fun H locs hT => ?_)
  refine lv_aload_n (pc := 12) hx hb dX12_wrong_12 rfl (lv_at hl 0 rfl) ?_
  refine lv_iload_n (pc := 13) hx hb dX12_wrong_13 rfl (lv_at hl 2 rfl) ?_
  refine z_put (pc := 14) (ty := .int) hx hb hts hown hK hT 0 12 7 (by decide +kernel) rfl rfl rfl rfl (by decide) rfl w7_214 (Nat.le_of_ble_eq_true rfl) dX12_wrong_14 [(h0, .inr (12, [.int 0, .ref h1, .int 0, .int 0, .int 0, .int (-1), .int 1, .int 0, .ref h2, .ref h3, .ref h4, .ref h5, .int 0, .ref h6, .ref h7, .int 0, .ref h8, .ref h9, .ref h10, .ref h11, .ref h12, .int 0, .ref h13, .ref h14, .ref h15, .int 0, .ref h16, .ref h17, .ref h18, .int 0, .int 0, .ref h19, .ref h20, .ref h21, .int 0, .long 0, .long 0, .ref h22, .ref h23, .ref h24, .ref h25, .ref h26, .ref h27, .ref h28, .ref h29, .ref h30, .ref h31, .int 0, .int 0, .ref h32, .ref h33, .ref h34, .ref h35, .ref h36, .ref h37, .ref h38, .ref h39, .ref h40, .int 0, .int 0, .int 0, .int 0, .long 0, .ref h41, .ref h42, .ref h43, .int 0, .int 0, .long 0]))] rfl (fun H locs hT => ?_)
  exact z_vret (pc := 17) hx hb hr hlk hT (fun _ _ => 0) [0] rfl rfl (Nat.le_of_ble_eq_true rfl) (Nat.le_of_ble_eq_true rfl) dX12_wrong_17
set_option maxHeartbeats 4000000 in
set_option maxRecDepth 100000 in
theorem k1036_X12_fine (l : Launch) (G : va_G) (cy : Nat → ClassId) (h0 h1 h2 h3 h4 h5 h6 h7 h8 h9 h10 h11 h12 h13 h14 h15 h16 h17 h18 h19 h20 h21 h22 h23 h24 h25 h26 h27 h28 h29 h30 h31 h32 h33 h34 h35 h36 h37 h38 h39 h40 h41 h42 h43 : Nat) : zI l G cy yX12_fine cX12_fine 1 (some .boolean) 0 0 0 [.ref h0] [(h0, .inr (12, [.int 0, .ref h1, .int 0, .int 0, .int 0, .int (-1), .int 1, .int 0, .ref h2, .ref h3, .ref h4, .ref h5, .int 0, .ref h6, .ref h7, .int 0, .ref h8, .ref h9, .ref h10, .ref h11, .ref h12, .int 0, .ref h13, .ref h14, .ref h15, .int 0, .ref h16, .ref h17, .ref h18, .int 0, .int 0, .ref h19, .ref h20, .ref h21, .int 0, .long 0, .long 0, .ref h22, .ref h23, .ref h24, .ref h25, .ref h26, .ref h27, .ref h28, .ref h29, .ref h30, .ref h31, .int 0, .int 0, .ref h32, .ref h33, .ref h34, .ref h35, .ref h36, .ref h37, .ref h38, .ref h39, .ref h40, .int 0, .int 0, .int 0, .int 0, .long 0, .ref h41, .ref h42, .ref h43, .int 0, .int 0, .long 0]))] 0 (fun _ => [(h0, .inr (12, [.int 0, .ref h1, .int 0, .int 0, .int 0, .int (-1), .int 1, .int 0, .ref h2, .ref h3, .ref h4, .ref h5, .int 0, .ref h6, .ref h7, .int 0, .ref h8, .ref h9, .ref h10, .ref h11, .ref h12, .int 0, .ref h13, .ref h14, .ref h15, .int 0, .ref h16, .ref h17, .ref h18, .int 0, .int 0, .ref h19, .ref h20, .ref h21, .int 0, .long 0, .long 0, .ref h22, .ref h23, .ref h24, .ref h25, .ref h26, .ref h27, .ref h28, .ref h29, .ref h30, .ref h31, .int 0, .int 0, .ref h32, .ref h33, .ref h34, .ref h35, .ref h36, .ref h37, .ref h38, .ref h39, .ref h40, .int 0, .int 0, .int 0, .int 0, .long 0, .ref h41, .ref h42, .ref h43, .int 0, .int 0, .long 0]))]) := by
  refine zM.of (by decide) (Nat.le_of_ble_eq_true rfl) ?_
  intro p e s m args below meth c ls A hx hb hml hown hts hlk hr hin hl hK hA hT
  have hown : s.vm.findClass "CostBenchModel" = some m.cls := hown
  have hl : lv_has ls 1 [(0, .ref h0)] := hl
  refine lv_aload_n (pc := 0) hx hb dX12_fine_0 rfl (lv_at hl 0 rfl) ?_
  refine z_get (pc := 1) hx hb hts hown hK hT 0 12 6 rfl rfl (by decide) rfl w7_213 rfl dX12_fine_1 ?_
  refine zb_if_ne_t (pc := 4) (tgt := 11) hx hb dX12_fine_4 (by decide) (by decide) ?_
  refine lv_iconst (pc := 11) (v := 0) hx hb dX12_fine_11 (by decide) ?_
  exact z_zret (pc := 12) hx hb hr hlk hT (fun _ _ => 0) [0] rfl rfl rfl rfl (Nat.le_of_ble_eq_true rfl) (Nat.le_of_ble_eq_true rfl) dX12_fine_12
set_option maxHeartbeats 4000000 in
set_option maxRecDepth 100000 in
theorem k1037_X12_number (l : Launch) (G : va_G) (cy : Nat → ClassId) (h0 h1 h2 h3 h4 h5 h6 h7 h8 h9 h10 h11 h12 h13 h14 h15 h16 h17 h18 h19 h20 h21 h22 h23 h24 h25 h26 h27 h28 h29 h30 h31 h32 h33 h34 h35 h36 h37 h38 h39 h40 h41 h42 h43 : Nat) : zI l G cy yX12_number cX12_number 5 (some .int) 1 0 0 [.ref h0, .int 1, .int 12] [(h0, .inr (12, [.int 0, .ref h1, .int 0, .int 0, .int 0, .int (-1), .int 1, .int 0, .ref h2, .ref h3, .ref h4, .ref h5, .int 0, .ref h6, .ref h7, .int 0, .ref h8, .ref h9, .ref h10, .ref h11, .ref h12, .int 0, .ref h13, .ref h14, .ref h15, .int 0, .ref h16, .ref h17, .ref h18, .int 0, .int 0, .ref h19, .ref h20, .ref h21, .int 0, .long 0, .long 0, .ref h22, .ref h23, .ref h24, .ref h25, .ref h26, .ref h27, .ref h28, .ref h29, .ref h30, .ref h31, .int 0, .int 0, .ref h32, .ref h33, .ref h34, .ref h35, .ref h36, .ref h37, .ref h38, .ref h39, .ref h40, .int 0, .int 0, .int 0, .int 0, .long 0, .ref h41, .ref h42, .ref h43, .int 0, .int 0, .long 0]))] 1 (fun _ => [(h0, .inr (12, [.int 0, .ref h1, .int 0, .int 0, .int 0, .int (-1), .int 1, .int 0, .ref h2, .ref h3, .ref h4, .ref h5, .int 0, .ref h6, .ref h7, .int 0, .ref h8, .ref h9, .ref h10, .ref h11, .ref h12, .int 0, .ref h13, .ref h14, .ref h15, .int 0, .ref h16, .ref h17, .ref h18, .int 0, .int 0, .ref h19, .ref h20, .ref h21, .int 0, .long 0, .long 0, .ref h22, .ref h23, .ref h24, .ref h25, .ref h26, .ref h27, .ref h28, .ref h29, .ref h30, .ref h31, .int 0, .int 0, .ref h32, .ref h33, .ref h34, .ref h35, .ref h36, .ref h37, .ref h38, .ref h39, .ref h40, .int 0, .int 0, .int 0, .int 0, .long 0, .ref h41, .ref h42, .ref h43, .int 0, .int 0, .long 0]))]) := by
  refine zM.of (by decide) (Nat.le_of_ble_eq_true rfl) ?_
  intro p e s m args below meth c ls A hx hb hml hown hts hlk hr hin hl hK hA hT
  have hown : s.vm.findClass "CostBenchModel" = some m.cls := hown
  have hl : lv_has ls 5 [(0, .ref h0), (1, .int 1), (2, .int 12)] := hl
  refine lv_aload_n (pc := 0) hx hb dX12_number_0 rfl (lv_at hl 0 rfl) ?_
  refine z_cVI (pc := 1) hx hb hml hown hts hK hA hT lkV_RX12_325 (k1036_X12_fine l G cy h0 h1 h2 h3 h4 h5 h6 h7 h8 h9 h10 h11 h12 h13 h14 h15 h16 h17 h18 h19 h20 h21 h22 h23 h24 h25 h26 h27 h28 h29 h30 h31 h32 h33 h34 h35 h36 h37 h38 h39 h40 h41 h42 h43) [0] [] rfl rfl rfl rfl rfl 0 rfl rfl (by decide) rfl hl.1 rfl (Nat.le_of_ble_eq_true rfl) dX12_number_1 ⟨Nat.le_of_ble_eq_true rfl, Nat.le_of_ble_eq_true rfl⟩ (fun _ => [(h0, .inr (12, [.int 0, .ref h1, .int 0, .int 0, .int 0, .int (-1), .int 1, .int 0, .ref h2, .ref h3, .ref h4, .ref h5, .int 0, .ref h6, .ref h7, .int 0, .ref h8, .ref h9, .ref h10, .ref h11, .ref h12, .int 0, .ref h13, .ref h14, .ref h15, .int 0, .ref h16, .ref h17, .ref h18, .int 0, .int 0, .ref h19, .ref h20, .ref h21, .int 0, .long 0, .long 0, .ref h22, .ref h23, .ref h24, .ref h25, .ref h26, .ref h27, .ref h28, .ref h29, .ref h30, .ref h31, .int 0, .int 0, .ref h32, .ref h33, .ref h34, .ref h35, .ref h36, .ref h37, .ref h38, .ref h39, .ref h40, .int 0, .int 0, .int 0, .int 0, .long 0, .ref h41, .ref h42, .ref h43, .int 0, .int 0, .long 0]))]) (fun _ => rfl) (fun qs1 H locs hT => ?_)
  refine zb_if_ne_f (pc := 4) (tgt := 9) hx hb dX12_number_4 (by decide) (by decide) ?_
  refine lv_iload_n (pc := 7) hx hb dX12_number_7 rfl (lv_at hl 1 rfl) ?_
  exact z_iret (pc := 8) hx hb hr hlk hT (fun _ _ => 0) [0] rfl rfl rfl (Nat.le_of_ble_eq_true rfl) (Nat.le_of_ble_eq_true rfl) dX12_number_8
set_option maxHeartbeats 4000000 in
set_option maxRecDepth 100000 in
theorem k1038_X12_endsLine (l : Launch) (G : va_G) (cy : Nat → ClassId) (h0 h1 h2 h3 h4 h5 h6 h7 h8 h9 h10 h11 h12 h13 h14 h15 h16 h17 h18 h19 h20 h21 h22 h23 h24 h25 h26 h27 h28 h29 h30 h31 h32 h33 h34 h35 h36 h37 h38 h39 h40 h41 h42 h43 : Nat) : zV l G cy yX12_endsLine cX12_endsLine 1 none 1 0 0 [.ref h0] [(h0, .inr (12, [.int 0, .ref h1, .int 0, .int 0, .int 0, .int (-1), .int 1, .int 0, .ref h2, .ref h3, .ref h4, .ref h5, .int 0, .ref h6, .ref h7, .int 0, .ref h8, .ref h9, .ref h10, .ref h11, .ref h12, .int 0, .ref h13, .ref h14, .ref h15, .int 0, .ref h16, .ref h17, .ref h18, .int 0, .int 0, .ref h19, .ref h20, .ref h21, .int 0, .long 0, .long 0, .ref h22, .ref h23, .ref h24, .ref h25, .ref h26, .ref h27, .ref h28, .ref h29, .ref h30, .ref h31, .int 0, .int 0, .ref h32, .ref h33, .ref h34, .ref h35, .ref h36, .ref h37, .ref h38, .ref h39, .ref h40, .int 0, .int 0, .int 0, .int 0, .long 0, .ref h41, .ref h42, .ref h43, .int 0, .int 0, .long 0]))] (fun _ => [(h0, .inr (12, [.int 0, .ref h1, .int 0, .int 0, .int 0, .int (-1), .int 1, .int 0, .ref h2, .ref h3, .ref h4, .ref h5, .int 0, .ref h6, .ref h7, .int 0, .ref h8, .ref h9, .ref h10, .ref h11, .ref h12, .int 0, .ref h13, .ref h14, .ref h15, .int 0, .ref h16, .ref h17, .ref h18, .int 0, .int 0, .ref h19, .ref h20, .ref h21, .int 0, .long 0, .long 0, .ref h22, .ref h23, .ref h24, .ref h25, .ref h26, .ref h27, .ref h28, .ref h29, .ref h30, .ref h31, .int 0, .int 0, .ref h32, .ref h33, .ref h34, .ref h35, .ref h36, .ref h37, .ref h38, .ref h39, .ref h40, .int 0, .int 0, .int 0, .int 0, .long 0, .ref h41, .ref h42, .ref h43, .int 0, .int 0, .long 0]))]) := by
  refine zM.of (by decide) (Nat.le_of_ble_eq_true rfl) ?_
  intro p e s m args below meth c ls A hx hb hml hown hts hlk hr hin hl hK hA hT
  have hown : s.vm.findClass "CostBenchModel" = some m.cls := hown
  have hl : lv_has ls 1 [(0, .ref h0)] := hl
  refine lv_aload_n (pc := 0) hx hb dX12_endsLine_0 rfl (lv_at hl 0 rfl) ?_
  refine z_cVI (pc := 1) hx hb hml hown hts hK hA hT lkV_RX12_325 (k1036_X12_fine l G cy h0 h1 h2 h3 h4 h5 h6 h7 h8 h9 h10 h11 h12 h13 h14 h15 h16 h17 h18 h19 h20 h21 h22 h23 h24 h25 h26 h27 h28 h29 h30 h31 h32 h33 h34 h35 h36 h37 h38 h39 h40 h41 h42 h43) [0] [] rfl rfl rfl rfl rfl 0 rfl rfl (by decide) rfl hl.1 rfl (Nat.le_of_ble_eq_true rfl) dX12_endsLine_1 ⟨Nat.le_of_ble_eq_true rfl, Nat.le_of_ble_eq_true rfl⟩ (fun _ => [(h0, .inr (12, [.int 0, .ref h1, .int 0, .int 0, .int 0, .int (-1), .int 1, .int 0, .ref h2, .ref h3, .ref h4, .ref h5, .int 0, .ref h6, .ref h7, .int 0, .ref h8, .ref h9, .ref h10, .ref h11, .ref h12, .int 0, .ref h13, .ref h14, .ref h15, .int 0, .ref h16, .ref h17, .ref h18, .int 0, .int 0, .ref h19, .ref h20, .ref h21, .int 0, .long 0, .long 0, .ref h22, .ref h23, .ref h24, .ref h25, .ref h26, .ref h27, .ref h28, .ref h29, .ref h30, .ref h31, .int 0, .int 0, .ref h32, .ref h33, .ref h34, .ref h35, .ref h36, .ref h37, .ref h38, .ref h39, .ref h40, .int 0, .int 0, .int 0, .int 0, .long 0, .ref h41, .ref h42, .ref h43, .int 0, .int 0, .long 0]))]) (fun _ => rfl) (fun qs1 H locs hT => ?_)
  refine zb_if_ne_f (pc := 4) (tgt := 8) hx hb dX12_endsLine_4 (by decide) (by decide) ?_
  exact z_vret (pc := 7) hx hb hr hlk hT (fun _ _ => 0) [0] rfl rfl (Nat.le_of_ble_eq_true rfl) (Nat.le_of_ble_eq_true rfl) dX12_endsLine_7
set_option maxHeartbeats 4000000 in
set_option maxRecDepth 100000 in
theorem k1039_X12_draftOf (l : Launch) (G : va_G) (cy : Nat → ClassId) (h0 h1 h2 h3 h4 h5 h6 h7 h8 h9 h10 h11 h12 h13 h14 h15 h16 h17 h18 h19 h20 h21 h22 h23 h24 h25 h26 h27 h28 h29 h30 h31 h32 h33 h34 h35 h36 h37 h38 h39 h40 h41 h42 h43 : Nat) : zV l G cy yX12_draftOf cX12_draftOf 2 none 1 0 0 [.ref h0, .int 1] [(h0, .inr (12, [.int 0, .ref h2, .int 0, .int 0, .int 0, .int (-1), .int 1, .int 0, .ref h3, .ref h4, .ref h5, .ref h6, .int 0, .ref h1, .ref h7, .int 0, .ref h8, .ref h9, .ref h10, .ref h11, .ref h12, .int 0, .ref h13, .ref h14, .ref h15, .int 0, .ref h16, .ref h17, .ref h18, .int 0, .int 0, .ref h19, .ref h20, .ref h21, .int 0, .long 0, .long 0, .ref h22, .ref h23, .ref h24, .ref h25, .ref h26, .ref h27, .ref h28, .ref h29, .ref h30, .ref h31, .int 0, .int 0, .ref h32, .ref h33, .ref h34, .ref h35, .ref h36, .ref h37, .ref h38, .ref h39, .ref h40, .int 0, .int 0, .int 0, .int 0, .long 0, .ref h41, .ref h42, .ref h43, .int 0, .int 0, .long 0])), (h1, .inl (cy 0, 643, .inl (kc 0)))] (fun _ => [(h0, .inr (12, [.int 0, .ref h2, .int 0, .int 0, .int 0, .int (-1), .int 1, .int 0, .ref h3, .ref h4, .ref h5, .ref h6, .int 0, .ref h1, .ref h7, .int 0, .ref h8, .ref h9, .ref h10, .ref h11, .ref h12, .int 0, .ref h13, .ref h14, .ref h15, .int 0, .ref h16, .ref h17, .ref h18, .int 0, .int 0, .ref h19, .ref h20, .ref h21, .int 0, .long 0, .long 0, .ref h22, .ref h23, .ref h24, .ref h25, .ref h26, .ref h27, .ref h28, .ref h29, .ref h30, .ref h31, .int 0, .int 0, .ref h32, .ref h33, .ref h34, .ref h35, .ref h36, .ref h37, .ref h38, .ref h39, .ref h40, .int 0, .int 0, .int 0, .int 0, .long 0, .ref h41, .ref h42, .ref h43, .int 0, .int 0, .long 0])), (h1, .inl (cy 0, 643, .inl (zfil (upd (kc 0) 0 1) 3 43 (-1))))]) := by
  refine zM.of (by decide) (Nat.le_of_ble_eq_true rfl) ?_
  intro p e s m args below meth c ls A hx hb hml hown hts hlk hr hin hl hK hA hT
  have hown : s.vm.findClass "CostBenchModel" = some m.cls := hown
  have hl : lv_has ls 2 [(0, .ref h0), (1, .int 1)] := hl
  refine lv_aload_n (pc := 0) hx hb dX12_draftOf_0 rfl (lv_at hl 0 rfl) ?_
  refine lv_iload_n (pc := 1) hx hb dX12_draftOf_1 rfl (lv_at hl 1 rfl) ?_
  refine lv_bipush (pc := 2) (v := 40) hx hb dX12_draftOf_2 (by decide) ?_
  refine zb_icmp_le_t (pc := 4) (tgt := 11) hx hb dX12_draftOf_4 (by decide) (by decide) ?_
  refine lv_iconst (pc := 11) (v := 0) hx hb dX12_draftOf_11 (by decide) ?_
  refine z_put (pc := 12) (ty := .boolean) hx hb hts hown hK hT 0 12 15 (by decide +kernel) rfl rfl rfl rfl (by decide) rfl w7_222 (Nat.le_of_ble_eq_true rfl) dX12_draftOf_12 [(h0, .inr (12, [.int 0, .ref h2, .int 0, .int 0, .int 0, .int (-1), .int 1, .int 0, .ref h3, .ref h4, .ref h5, .ref h6, .int 0, .ref h1, .ref h7, .int 0, .ref h8, .ref h9, .ref h10, .ref h11, .ref h12, .int 0, .ref h13, .ref h14, .ref h15, .int 0, .ref h16, .ref h17, .ref h18, .int 0, .int 0, .ref h19, .ref h20, .ref h21, .int 0, .long 0, .long 0, .ref h22, .ref h23, .ref h24, .ref h25, .ref h26, .ref h27, .ref h28, .ref h29, .ref h30, .ref h31, .int 0, .int 0, .ref h32, .ref h33, .ref h34, .ref h35, .ref h36, .ref h37, .ref h38, .ref h39, .ref h40, .int 0, .int 0, .int 0, .int 0, .long 0, .ref h41, .ref h42, .ref h43, .int 0, .int 0, .long 0])), (h1, .inl (cy 0, 643, .inl (kc 0)))] rfl (fun H locs hT => ?_)
  refine lv_aload_n (pc := 15) hx hb dX12_draftOf_15 rfl (lv_at hl 0 rfl) ?_
  refine z_get (pc := 16) hx hb hts hown hK hT 0 12 13 rfl rfl (by decide) rfl w7_220 rfl dX12_draftOf_16 ?_
  refine lv_iload_n (pc := 19) hx hb dX12_draftOf_19 rfl (lv_at hl 1 rfl) ?_
  refine lv_bipush (pc := 20) (v := 40) hx hb dX12_draftOf_20 (by decide) ?_
  refine z_cSI (pc := 22) hx hb hml hown hts hK hA hT lkS_RX12_162 (k313_X12_less l G cy) [] [0, 1] rfl rfl rfl rfl rfl (by decide) rfl hl.1 rfl (Nat.le_of_ble_eq_true rfl) dX12_draftOf_22 ⟨Nat.le_of_ble_eq_true rfl, Nat.le_of_ble_eq_true rfl⟩ (fun _ => [(h0, .inr (12, [.int 0, .ref h2, .int 0, .int 0, .int 0, .int (-1), .int 1, .int 0, .ref h3, .ref h4, .ref h5, .ref h6, .int 0, .ref h1, .ref h7, .int 0, .ref h8, .ref h9, .ref h10, .ref h11, .ref h12, .int 0, .ref h13, .ref h14, .ref h15, .int 0, .ref h16, .ref h17, .ref h18, .int 0, .int 0, .ref h19, .ref h20, .ref h21, .int 0, .long 0, .long 0, .ref h22, .ref h23, .ref h24, .ref h25, .ref h26, .ref h27, .ref h28, .ref h29, .ref h30, .ref h31, .int 0, .int 0, .ref h32, .ref h33, .ref h34, .ref h35, .ref h36, .ref h37, .ref h38, .ref h39, .ref h40, .int 0, .int 0, .int 0, .int 0, .long 0, .ref h41, .ref h42, .ref h43, .int 0, .int 0, .long 0])), (h1, .inl (cy 0, 643, .inl (kc 0)))]) (fun _ => rfl) (fun qs1 H locs hT => ?_)
  refine z_cSV (pc := 25) hx hb hml hown hts hK hA hT lkS_RX12_149 (k12_X12_begins l G cy h1) [1] [0] rfl rfl rfl rfl rfl (by decide) rfl hl.1 rfl (Nat.le_of_ble_eq_true rfl) dX12_draftOf_25 ⟨Nat.le_of_ble_eq_true rfl, Nat.le_of_ble_eq_true rfl⟩ (fun _ => [(h0, .inr (12, [.int 0, .ref h2, .int 0, .int 0, .int 0, .int (-1), .int 1, .int 0, .ref h3, .ref h4, .ref h5, .ref h6, .int 0, .ref h1, .ref h7, .int 0, .ref h8, .ref h9, .ref h10, .ref h11, .ref h12, .int 0, .ref h13, .ref h14, .ref h15, .int 0, .ref h16, .ref h17, .ref h18, .int 0, .int 0, .ref h19, .ref h20, .ref h21, .int 0, .long 0, .long 0, .ref h22, .ref h23, .ref h24, .ref h25, .ref h26, .ref h27, .ref h28, .ref h29, .ref h30, .ref h31, .int 0, .int 0, .ref h32, .ref h33, .ref h34, .ref h35, .ref h36, .ref h37, .ref h38, .ref h39, .ref h40, .int 0, .int 0, .int 0, .int 0, .long 0, .ref h41, .ref h42, .ref h43, .int 0, .int 0, .long 0])), (h1, .inl (cy 0, 643, .inl (zfil (upd (kc 0) 0 1) 3 43 (-1))))]) (fun _ => rfl) (fun qs2 H locs hT => ?_)
  exact z_vret (pc := 28) hx hb hr hlk hT (fun _ _ => 0) [0, 1] rfl rfl (Nat.le_of_ble_eq_true rfl) (Nat.le_of_ble_eq_true rfl) dX12_draftOf_28
set_option maxHeartbeats 4000000 in
set_option maxRecDepth 100000 in
theorem k1040_X12_fine (l : Launch) (G : va_G) (cy : Nat → ClassId) (h0 h1 h2 h3 h4 h5 h6 h7 h8 h9 h10 h11 h12 h13 h14 h15 h16 h17 h18 h19 h20 h21 h22 h23 h24 h25 h26 h27 h28 h29 h30 h31 h32 h33 h34 h35 h36 h37 h38 h39 h40 h41 h42 h43 : Nat) : zI l G cy yX12_fine cX12_fine 1 (some .boolean) 0 0 0 [.ref h0] [(h0, .inr (12, [.int 0, .ref h1, .int 0, .int 0, .int 0, .int 0, .int 1, .int 0, .ref h2, .ref h3, .ref h4, .ref h5, .int 0, .ref h6, .ref h7, .int 0, .ref h8, .ref h9, .ref h10, .ref h11, .ref h12, .int 0, .ref h13, .ref h14, .ref h15, .int 0, .ref h16, .ref h17, .ref h18, .int 0, .int 0, .ref h19, .ref h20, .ref h21, .int 0, .long 0, .long 0, .ref h22, .ref h23, .ref h24, .ref h25, .ref h26, .ref h27, .ref h28, .ref h29, .ref h30, .ref h31, .int 0, .int 0, .ref h32, .ref h33, .ref h34, .ref h35, .ref h36, .ref h37, .ref h38, .ref h39, .ref h40, .int 0, .int 0, .int 0, .int 0, .long 0, .ref h41, .ref h42, .ref h43, .int 0, .int 0, .long 0]))] 0 (fun _ => [(h0, .inr (12, [.int 0, .ref h1, .int 0, .int 0, .int 0, .int 0, .int 1, .int 0, .ref h2, .ref h3, .ref h4, .ref h5, .int 0, .ref h6, .ref h7, .int 0, .ref h8, .ref h9, .ref h10, .ref h11, .ref h12, .int 0, .ref h13, .ref h14, .ref h15, .int 0, .ref h16, .ref h17, .ref h18, .int 0, .int 0, .ref h19, .ref h20, .ref h21, .int 0, .long 0, .long 0, .ref h22, .ref h23, .ref h24, .ref h25, .ref h26, .ref h27, .ref h28, .ref h29, .ref h30, .ref h31, .int 0, .int 0, .ref h32, .ref h33, .ref h34, .ref h35, .ref h36, .ref h37, .ref h38, .ref h39, .ref h40, .int 0, .int 0, .int 0, .int 0, .long 0, .ref h41, .ref h42, .ref h43, .int 0, .int 0, .long 0]))]) := by
  refine zM.of (by decide) (Nat.le_of_ble_eq_true rfl) ?_
  intro p e s m args below meth c ls A hx hb hml hown hts hlk hr hin hl hK hA hT
  have hown : s.vm.findClass "CostBenchModel" = some m.cls := hown
  have hl : lv_has ls 1 [(0, .ref h0)] := hl
  refine lv_aload_n (pc := 0) hx hb dX12_fine_0 rfl (lv_at hl 0 rfl) ?_
  refine z_get (pc := 1) hx hb hts hown hK hT 0 12 6 rfl rfl (by decide) rfl w7_213 rfl dX12_fine_1 ?_
  refine zb_if_ne_t (pc := 4) (tgt := 11) hx hb dX12_fine_4 (by decide) (by decide) ?_
  refine lv_iconst (pc := 11) (v := 0) hx hb dX12_fine_11 (by decide) ?_
  exact z_zret (pc := 12) hx hb hr hlk hT (fun _ _ => 0) [0] rfl rfl rfl rfl (Nat.le_of_ble_eq_true rfl) (Nat.le_of_ble_eq_true rfl) dX12_fine_12
set_option maxHeartbeats 4000000 in
set_option maxRecDepth 100000 in
theorem k1041_X12_text (l : Launch) (G : va_G) (cy : Nat → ClassId) (q1 v1 q2 v2 : Nat) (h0 h1 h2 h3 h4 h5 h6 h7 h8 h9 h10 h11 h12 h13 h14 h15 h16 h17 h18 h19 h20 h21 h22 h23 h24 h25 h26 h27 h28 h29 h30 h31 h32 h33 h34 h35 h36 h37 h38 h39 h40 h41 h42 h43 : Nat) (n0 : Nat) (hlon0 : 0 ≤ n0) (hhin0 : n0 < 6) : zNI' (zS q1 v1 q2 v2) l G cy yX12_text cX12_text 5 (some .int) 5 0 0 [.ref h0, .int (nI n0), .int 0] [(h0, .inr (12, [.int 0, .ref h2, .int 0, .int 0, .int 0, .int (-1), .int 0, .int 0, .ref h3, .ref h4, .ref h5, .ref h6, .int 0, .ref h1, .ref h7, .int 0, .ref h8, .ref h9, .ref h10, .ref h11, .ref h12, .int 0, .ref h13, .ref h14, .ref h15, .int 0, .ref h16, .ref h17, .ref h18, .int 0, .int 0, .ref h19, .ref h20, .ref h21, .int 0, .long 0, .long 0, .ref h22, .ref h23, .ref h24, .ref h25, .ref h26, .ref h27, .ref h28, .ref h29, .ref h30, .ref h31, .int 0, .int 0, .ref h32, .ref h33, .ref h34, .ref h35, .ref h36, .ref h37, .ref h38, .ref h39, .ref h40, .int 0, .int 0, .int 0, .int 0, .long 0, .ref h41, .ref h42, .ref h43, .int 0, .int 0, .long 0])), (h1, .inl (cy 0, 643, .inl (kc 0)))] (-9) (fun _ => [(h0, .inr (12, [.int 0, .ref h2, .int 0, .int 0, .int 0, .int 0, .int 1, .int 0, .ref h3, .ref h4, .ref h5, .ref h6, .int 0, .ref h1, .ref h7, .int 0, .ref h8, .ref h9, .ref h10, .ref h11, .ref h12, .int 0, .ref h13, .ref h14, .ref h15, .int 0, .ref h16, .ref h17, .ref h18, .int 0, .int 0, .ref h19, .ref h20, .ref h21, .int 0, .long 0, .long 0, .ref h22, .ref h23, .ref h24, .ref h25, .ref h26, .ref h27, .ref h28, .ref h29, .ref h30, .ref h31, .int 0, .int 0, .ref h32, .ref h33, .ref h34, .ref h35, .ref h36, .ref h37, .ref h38, .ref h39, .ref h40, .int 0, .int 0, .int 0, .int 0, .long 0, .ref h41, .ref h42, .ref h43, .int 0, .int 0, .long 0]))]) := by
  refine zN.of (by decide) (Nat.le_of_ble_eq_true rfl) ?_
  intro p e s m args below meth c ls A hx hb hml hown hts hlk hr hl hK hE hA hT
  have hown : s.vm.findClass "CostBenchModel" = some m.cls := hown
  have hl : lv_has ls 5 [(0, .ref h0), (1, .int (nI n0)), (2, .int 0)] := hl
  refine lv_aload_n (pc := 0) hx hb dX12_text_0 rfl (lv_at hl 0 rfl) ?_
  refine lv_iconst (pc := 1) (v := 0) hx hb dX12_text_1 (by decide) ?_
  refine z_put (pc := 2) (ty := .int) hx hb hts hown hK hT 0 12 0 (by decide +kernel) rfl rfl rfl rfl (by decide) rfl w7_207 (Nat.le_of_ble_eq_true rfl) dX12_text_2 [(h0, .inr (12, [.int 0, .ref h2, .int 0, .int 0, .int 0, .int (-1), .int 0, .int 0, .ref h3, .ref h4, .ref h5, .ref h6, .int 0, .ref h1, .ref h7, .int 0, .ref h8, .ref h9, .ref h10, .ref h11, .ref h12, .int 0, .ref h13, .ref h14, .ref h15, .int 0, .ref h16, .ref h17, .ref h18, .int 0, .int 0, .ref h19, .ref h20, .ref h21, .int 0, .long 0, .long 0, .ref h22, .ref h23, .ref h24, .ref h25, .ref h26, .ref h27, .ref h28, .ref h29, .ref h30, .ref h31, .int 0, .int 0, .ref h32, .ref h33, .ref h34, .ref h35, .ref h36, .ref h37, .ref h38, .ref h39, .ref h40, .int 0, .int 0, .int 0, .int 0, .long 0, .ref h41, .ref h42, .ref h43, .int 0, .int 0, .long 0])), (h1, .inl (cy 0, 643, .inl (kc 0)))] rfl (fun H locs hT => ?_)
  refine lv_aload_n (pc := 5) hx hb dX12_text_5 rfl (lv_at hl 0 rfl) ?_
  refine lv_iload_n (pc := 6) hx hb dX12_text_6 rfl (lv_at hl 1 rfl) ?_
  refine z_cSI (pc := 7) hx hb hml hown hts hK hA hT lkS_RX12_270 (k304_X12_isSlot l G cy n0 (by omega) (by omega)) [] [0, 1] rfl rfl rfl rfl rfl (by decide) rfl hl.1 rfl (Nat.le_of_ble_eq_true rfl) dX12_text_7 ⟨Nat.le_of_ble_eq_true rfl, Nat.le_of_ble_eq_true rfl⟩ (fun _ => [(h0, .inr (12, [.int 0, .ref h2, .int 0, .int 0, .int 0, .int (-1), .int 0, .int 0, .ref h3, .ref h4, .ref h5, .ref h6, .int 0, .ref h1, .ref h7, .int 0, .ref h8, .ref h9, .ref h10, .ref h11, .ref h12, .int 0, .ref h13, .ref h14, .ref h15, .int 0, .ref h16, .ref h17, .ref h18, .int 0, .int 0, .ref h19, .ref h20, .ref h21, .int 0, .long 0, .long 0, .ref h22, .ref h23, .ref h24, .ref h25, .ref h26, .ref h27, .ref h28, .ref h29, .ref h30, .ref h31, .int 0, .int 0, .ref h32, .ref h33, .ref h34, .ref h35, .ref h36, .ref h37, .ref h38, .ref h39, .ref h40, .int 0, .int 0, .int 0, .int 0, .long 0, .ref h41, .ref h42, .ref h43, .int 0, .int 0, .long 0])), (h1, .inl (cy 0, 643, .inl (kc 0)))]) (fun _ => rfl) (fun qs1 H locs hT => ?_)
  refine zb_if_ne_t (pc := 10) (tgt := 17) hx hb dX12_text_10 (by decide) (by decide) ?_
  refine lv_iconst (pc := 17) (v := 0) hx hb dX12_text_17 (by decide) ?_
  refine lv_iconst (pc := 18) (v := 1) hx hb dX12_text_18 (by decide) ?_
  refine lv_iconst (pc := 19) (v := 0) hx hb dX12_text_19 (by decide) ?_
  refine z_cVI (pc := 20) hx hb hml hown hts hK hA hT lkV_RX12_263 (k305_X12_bad l G cy h0 h2 h3 h4 h5 h6 h1 h7 h8 h9 h10 h11 h12 h13 h14 h15 h16 h17 h18 h19 h20 h21 h22 h23 h24 h25 h26 h27 h28 h29 h30 h31 h32 h33 h34 h35 h36 h37 h38 h39 h40 h41 h42 h43) [0] [1] rfl rfl rfl rfl rfl 0 rfl rfl (by decide) rfl hl.1 rfl (Nat.le_of_ble_eq_true rfl) dX12_text_20 ⟨Nat.le_of_ble_eq_true rfl, Nat.le_of_ble_eq_true rfl⟩ (fun _ => [(h1, .inl (cy 0, 643, .inl (kc 0))), (h0, .inr (12, [.int 0, .ref h2, .int 0, .int 0, .int 0, .int (-1), .int 0, .int 0, .ref h3, .ref h4, .ref h5, .ref h6, .int 0, .ref h1, .ref h7, .int 0, .ref h8, .ref h9, .ref h10, .ref h11, .ref h12, .int 0, .ref h13, .ref h14, .ref h15, .int 0, .ref h16, .ref h17, .ref h18, .int 0, .int 0, .ref h19, .ref h20, .ref h21, .int 0, .long 0, .long 0, .ref h22, .ref h23, .ref h24, .ref h25, .ref h26, .ref h27, .ref h28, .ref h29, .ref h30, .ref h31, .int 0, .int 0, .ref h32, .ref h33, .ref h34, .ref h35, .ref h36, .ref h37, .ref h38, .ref h39, .ref h40, .int 0, .int 0, .int 0, .int 0, .long 0, .ref h41, .ref h42, .ref h43, .int 0, .int 0, .long 0]))]) (fun _ => rfl) (fun qs2 H locs hT => ?_)
  refine zb_if_ne_f (pc := 23) (tgt := 52) hx hb dX12_text_23 (by decide) (by decide) ?_
  refine lv_aload_n (pc := 26) hx hb dX12_text_26 rfl (lv_at hl 0 rfl) ?_
  refine lv_iload_n (pc := 27) hx hb dX12_text_27 rfl (lv_at hl 2 rfl) ?_
  refine lv_iconst (pc := 28) (v := 0) hx hb dX12_text_28 (by decide) ?_
  refine lv_aload_n (pc := 29) hx hb dX12_text_29 rfl (lv_at hl 0 rfl) ?_
  refine z_get (pc := 30) hx hb hts hown hK hT 1 12 2 rfl rfl (by decide) rfl w7_209 rfl dX12_text_30 ?_
  refine z_cSI (pc := 33) hx hb hml hown hts hK hA hT lkS_RX12_256 (k435_X12_in l G cy) [] [0, 1] rfl rfl rfl rfl rfl (by decide) rfl hl.1 rfl (Nat.le_of_ble_eq_true rfl) dX12_text_33 ⟨Nat.le_of_ble_eq_true rfl, Nat.le_of_ble_eq_true rfl⟩ (fun _ => [(h1, .inl (cy 0, 643, .inl (kc 0))), (h0, .inr (12, [.int 0, .ref h2, .int 0, .int 0, .int 0, .int (-1), .int 0, .int 0, .ref h3, .ref h4, .ref h5, .ref h6, .int 0, .ref h1, .ref h7, .int 0, .ref h8, .ref h9, .ref h10, .ref h11, .ref h12, .int 0, .ref h13, .ref h14, .ref h15, .int 0, .ref h16, .ref h17, .ref h18, .int 0, .int 0, .ref h19, .ref h20, .ref h21, .int 0, .long 0, .long 0, .ref h22, .ref h23, .ref h24, .ref h25, .ref h26, .ref h27, .ref h28, .ref h29, .ref h30, .ref h31, .int 0, .int 0, .ref h32, .ref h33, .ref h34, .ref h35, .ref h36, .ref h37, .ref h38, .ref h39, .ref h40, .int 0, .int 0, .int 0, .int 0, .long 0, .ref h41, .ref h42, .ref h43, .int 0, .int 0, .long 0]))]) (fun _ => rfl) (fun qs3 H locs hT => ?_)
  refine zb_if_ne_t (pc := 36) (tgt := 43) hx hb dX12_text_36 (by decide) (by decide) ?_
  refine lv_iconst (pc := 43) (v := 0) hx hb dX12_text_43 (by decide) ?_
  refine lv_iconst (pc := 44) (v := 2) hx hb dX12_text_44 (by decide) ?_
  refine lv_iconst (pc := 45) (v := 1) hx hb dX12_text_45 (by decide) ?_
  refine z_cVI (pc := 46) hx hb hml hown hts hK hA hT lkV_RX12_263 (k307_X12_bad l G cy h0 h2 h3 h4 h5 h6 h1 h7 h8 h9 h10 h11 h12 h13 h14 h15 h16 h17 h18 h19 h20 h21 h22 h23 h24 h25 h26 h27 h28 h29 h30 h31 h32 h33 h34 h35 h36 h37 h38 h39 h40 h41 h42 h43) [1] [0] rfl rfl rfl rfl rfl 0 rfl rfl (by decide) rfl hl.1 rfl (Nat.le_of_ble_eq_true rfl) dX12_text_46 ⟨Nat.le_of_ble_eq_true rfl, Nat.le_of_ble_eq_true rfl⟩ (fun _ => [(h1, .inl (cy 0, 643, .inl (kc 0))), (h0, .inr (12, [.int 0, .ref h2, .int 0, .int 0, .int 0, .int (-1), .int 0, .int 0, .ref h3, .ref h4, .ref h5, .ref h6, .int 0, .ref h1, .ref h7, .int 0, .ref h8, .ref h9, .ref h10, .ref h11, .ref h12, .int 0, .ref h13, .ref h14, .ref h15, .int 0, .ref h16, .ref h17, .ref h18, .int 0, .int 0, .ref h19, .ref h20, .ref h21, .int 0, .long 0, .long 0, .ref h22, .ref h23, .ref h24, .ref h25, .ref h26, .ref h27, .ref h28, .ref h29, .ref h30, .ref h31, .int 0, .int 0, .ref h32, .ref h33, .ref h34, .ref h35, .ref h36, .ref h37, .ref h38, .ref h39, .ref h40, .int 0, .int 0, .int 0, .int 0, .long 0, .ref h41, .ref h42, .ref h43, .int 0, .int 0, .long 0]))]) (fun _ => rfl) (fun qs4 H locs hT => ?_)
  refine zb_if_eq_t (pc := 49) (tgt := 54) hx hb dX12_text_49 (by decide) (by decide) ?_
  refine lv_aload_n (pc := 54) hx hb dX12_text_54 rfl (lv_at hl 0 rfl) ?_
  refine lv_iload_n (pc := 55) hx hb dX12_text_55 rfl (lv_at hl 2 rfl) ?_
  refine z_cVV (pc := 56) hx hb hml hown hts hK hA hT lkV_RX12_372 (k442_X12_opens l G cy h0 h2 h3 h4 h5 h6 h1 h7 h8 h9 h10 h11 h12 h13 h14 h15 h16 h17 h18 h19 h20 h21 h22 h23 h24 h25 h26 h27 h28 h29 h30 h31 h32 h33 h34 h35 h36 h37 h38 h39 h40 h41 h42 h43) [1] [0] rfl rfl rfl rfl rfl 0 rfl rfl (by decide) rfl hl.1 rfl (Nat.le_of_ble_eq_true rfl) dX12_text_56 ⟨Nat.le_of_ble_eq_true rfl, Nat.le_of_ble_eq_true rfl⟩ (fun _ => [(h1, .inl (cy 0, 643, .inl (kc 0))), (h0, .inr (12, [.int 0, .ref h2, .int 0, .int 0, .int 0, .int (-1), .int 0, .int (-1), .ref h3, .ref h4, .ref h5, .ref h6, .int 0, .ref h1, .ref h7, .int 0, .ref h8, .ref h9, .ref h10, .ref h11, .ref h12, .int 0, .ref h13, .ref h14, .ref h15, .int 0, .ref h16, .ref h17, .ref h18, .int 0, .int 0, .ref h19, .ref h20, .ref h21, .int 0, .long 0, .long 0, .ref h22, .ref h23, .ref h24, .ref h25, .ref h26, .ref h27, .ref h28, .ref h29, .ref h30, .ref h31, .int 0, .int 0, .ref h32, .ref h33, .ref h34, .ref h35, .ref h36, .ref h37, .ref h38, .ref h39, .ref h40, .int 0, .int 0, .int 0, .int 0, .long 0, .ref h41, .ref h42, .ref h43, .int 0, .int 0, .long 0]))]) (fun _ => rfl) (fun qs5 H locs hT => ?_)
  refine lv_aload_n (pc := 59) hx hb dX12_text_59 rfl (lv_at hl 0 rfl) ?_
  refine z_cVI (pc := 60) hx hb hml hown hts hK hA hT lkV_RX12_329 (k1033_X12_here l G cy h0 h2 h3 h4 h5 h6 h1 h7 h8 h9 h10 h11 h12 h13 h14 h15 h16 h17 h18 h19 h20 h21 h22 h23 h24 h25 h26 h27 h28 h29 h30 h31 h32 h33 h34 h35 h36 h37 h38 h39 h40 h41 h42 h43) [1] [0] rfl rfl rfl rfl rfl 0 rfl rfl (by decide) rfl hl.1 rfl (Nat.le_of_ble_eq_true rfl) dX12_text_60 ⟨Nat.le_of_ble_eq_true rfl, Nat.le_of_ble_eq_true rfl⟩ (fun _ => [(h1, .inl (cy 0, 643, .inl (kc 0))), (h0, .inr (12, [.int 0, .ref h2, .int 0, .int 0, .int 0, .int (-1), .int 0, .int (-1), .ref h3, .ref h4, .ref h5, .ref h6, .int 0, .ref h1, .ref h7, .int 0, .ref h8, .ref h9, .ref h10, .ref h11, .ref h12, .int 0, .ref h13, .ref h14, .ref h15, .int 0, .ref h16, .ref h17, .ref h18, .int 0, .int 0, .ref h19, .ref h20, .ref h21, .int 0, .long 0, .long 0, .ref h22, .ref h23, .ref h24, .ref h25, .ref h26, .ref h27, .ref h28, .ref h29, .ref h30, .ref h31, .int 0, .int 0, .ref h32, .ref h33, .ref h34, .ref h35, .ref h36, .ref h37, .ref h38, .ref h39, .ref h40, .int 0, .int 0, .int 0, .int 0, .long 0, .ref h41, .ref h42, .ref h43, .int 0, .int 0, .long 0]))]) (fun _ => rfl) (fun qs6 H locs hT => ?_)
  refine lv_pop (pc := 63) hx hb dX12_text_63 rfl ?_
  refine lv_aload_n (pc := 64) hx hb dX12_text_64 rfl (lv_at hl 0 rfl) ?_
  refine z_get (pc := 65) hx hb hts hown hK hT 1 12 4 rfl rfl (by decide) rfl w7_211 rfl dX12_text_65 ?_
  refine lv_istore_n (pc := 68) (lv' := [(3, .int 0), (0, .ref h0), (1, .int (nI n0)), (2, .int 0)]) hx hb dX12_text_68 rfl hl (by decide) rfl (fun ls hl => ?_)
  refine lv_aload_n (pc := 69) hx hb dX12_text_69 rfl (lv_at hl 1 rfl) ?_
  refine z_ldcSW (pc := 70) hx hb hown hE.1.2 dX12_text_70 ?_
  refine z_eVI (pc := 73) zS_ok hE hx hb hml hown hts hK hA hT lkV_RX12_355 (k1034_X12_takesWord l G cy q1 v1 q2 v2 h0 h2 h3 h4 h5 h6 h1 h7 h8 h9 h10 h11 h12 h13 h14 h15 h16 h17 h18 h19 h20 h21 h22 h23 h24 h25 h26 h27 h28 h29 h30 h31 h32 h33 h34 h35 h36 h37 h38 h39 h40 h41 h42 h43) [1] [0] rfl rfl rfl rfl rfl 0 rfl rfl (by decide) rfl hl.1 rfl (Nat.le_of_ble_eq_true rfl) dX12_text_73 ⟨Nat.le_of_ble_eq_true rfl, Nat.le_of_ble_eq_true rfl⟩ (fun _ => [(h1, .inl (cy 0, 643, .inl (kc 0))), (h0, .inr (12, [.int 0, .ref h2, .int 0, .int 0, .int 0, .int (-1), .int 0, .int (-1), .ref h3, .ref h4, .ref h5, .ref h6, .int 0, .ref h1, .ref h7, .int 0, .ref h8, .ref h9, .ref h10, .ref h11, .ref h12, .int 0, .ref h13, .ref h14, .ref h15, .int 0, .ref h16, .ref h17, .ref h18, .int 0, .int 0, .ref h19, .ref h20, .ref h21, .int 0, .long 0, .long 0, .ref h22, .ref h23, .ref h24, .ref h25, .ref h26, .ref h27, .ref h28, .ref h29, .ref h30, .ref h31, .int 0, .int 0, .ref h32, .ref h33, .ref h34, .ref h35, .ref h36, .ref h37, .ref h38, .ref h39, .ref h40, .int 0, .int 0, .int 0, .int 0, .long 0, .ref h41, .ref h42, .ref h43, .int 0, .int 0, .long 0]))]) (fun _ => rfl) (fun qs7 H locs hT => ?_)
  refine zb_if_ne_f (pc := 76) (tgt := 85) hx hb dX12_text_76 (by decide) (by decide) ?_
  refine lv_aload_n (pc := 79) hx hb dX12_text_79 rfl (lv_at hl 1 rfl) ?_
  refine lv_iconst (pc := 80) (v := 1) hx hb dX12_text_80 (by decide) ?_
  refine lv_iload_n (pc := 81) hx hb dX12_text_81 rfl (lv_at hl 0 rfl) ?_
  refine z_cVV (pc := 82) hx hb hml hown hts hK hA hT lkV_RX12_336 (k1035_X12_wrong l G cy h0 h2 h3 h4 h5 h6 h1 h7 h8 h9 h10 h11 h12 h13 h14 h15 h16 h17 h18 h19 h20 h21 h22 h23 h24 h25 h26 h27 h28 h29 h30 h31 h32 h33 h34 h35 h36 h37 h38 h39 h40 h41 h42 h43) [1] [0] rfl rfl rfl rfl rfl 0 rfl rfl (by decide) rfl hl.1 rfl (Nat.le_of_ble_eq_true rfl) dX12_text_82 ⟨Nat.le_of_ble_eq_true rfl, Nat.le_of_ble_eq_true rfl⟩ (fun _ => [(h1, .inl (cy 0, 643, .inl (kc 0))), (h0, .inr (12, [.int 0, .ref h2, .int 0, .int 0, .int 0, .int (-1), .int 1, .int 0, .ref h3, .ref h4, .ref h5, .ref h6, .int 0, .ref h1, .ref h7, .int 0, .ref h8, .ref h9, .ref h10, .ref h11, .ref h12, .int 0, .ref h13, .ref h14, .ref h15, .int 0, .ref h16, .ref h17, .ref h18, .int 0, .int 0, .ref h19, .ref h20, .ref h21, .int 0, .long 0, .long 0, .ref h22, .ref h23, .ref h24, .ref h25, .ref h26, .ref h27, .ref h28, .ref h29, .ref h30, .ref h31, .int 0, .int 0, .ref h32, .ref h33, .ref h34, .ref h35, .ref h36, .ref h37, .ref h38, .ref h39, .ref h40, .int 0, .int 0, .int 0, .int 0, .long 0, .ref h41, .ref h42, .ref h43, .int 0, .int 0, .long 0]))]) (fun _ => rfl) (fun qs8 H locs hT => ?_)
  refine lv_aload_n (pc := 85) hx hb dX12_text_85 rfl (lv_at hl 1 rfl) ?_
  refine lv_iconst (pc := 86) (v := 1) hx hb dX12_text_86 (by decide) ?_
  refine lv_bipush (pc := 87) (v := 12) hx hb dX12_text_87 (by decide) ?_
  refine z_cVI (pc := 89) hx hb hml hown hts hK hA hT lkV_RX12_359 (k1037_X12_number l G cy h0 h2 h3 h4 h5 h6 h1 h7 h8 h9 h10 h11 h12 h13 h14 h15 h16 h17 h18 h19 h20 h21 h22 h23 h24 h25 h26 h27 h28 h29 h30 h31 h32 h33 h34 h35 h36 h37 h38 h39 h40 h41 h42 h43) [1] [0] rfl rfl rfl rfl rfl 0 rfl rfl (by decide) rfl hl.1 rfl (Nat.le_of_ble_eq_true rfl) dX12_text_89 ⟨Nat.le_of_ble_eq_true rfl, Nat.le_of_ble_eq_true rfl⟩ (fun _ => [(h1, .inl (cy 0, 643, .inl (kc 0))), (h0, .inr (12, [.int 0, .ref h2, .int 0, .int 0, .int 0, .int (-1), .int 1, .int 0, .ref h3, .ref h4, .ref h5, .ref h6, .int 0, .ref h1, .ref h7, .int 0, .ref h8, .ref h9, .ref h10, .ref h11, .ref h12, .int 0, .ref h13, .ref h14, .ref h15, .int 0, .ref h16, .ref h17, .ref h18, .int 0, .int 0, .ref h19, .ref h20, .ref h21, .int 0, .long 0, .long 0, .ref h22, .ref h23, .ref h24, .ref h25, .ref h26, .ref h27, .ref h28, .ref h29, .ref h30, .ref h31, .int 0, .int 0, .ref h32, .ref h33, .ref h34, .ref h35, .ref h36, .ref h37, .ref h38, .ref h39, .ref h40, .int 0, .int 0, .int 0, .int 0, .long 0, .ref h41, .ref h42, .ref h43, .int 0, .int 0, .long 0]))]) (fun _ => rfl) (fun qs9 H locs hT => ?_)
  refine lv_istore (pc := 92) (lv' := [(4, .int 1), (3, .int 0), (0, .ref h0), (1, .int (nI n0)), (2, .int 0)]) hx hb dX12_text_92 hl (by decide) rfl (fun ls hl => ?_)
  refine lv_aload_n (pc := 94) hx hb dX12_text_94 rfl (lv_at hl 2 rfl) ?_
  refine z_cVV (pc := 95) hx hb hml hown hts hK hA hT lkV_RX12_369 (k1038_X12_endsLine l G cy h0 h2 h3 h4 h5 h6 h1 h7 h8 h9 h10 h11 h12 h13 h14 h15 h16 h17 h18 h19 h20 h21 h22 h23 h24 h25 h26 h27 h28 h29 h30 h31 h32 h33 h34 h35 h36 h37 h38 h39 h40 h41 h42 h43) [1] [0] rfl rfl rfl rfl rfl 0 rfl rfl (by decide) rfl hl.1 rfl (Nat.le_of_ble_eq_true rfl) dX12_text_95 ⟨Nat.le_of_ble_eq_true rfl, Nat.le_of_ble_eq_true rfl⟩ (fun _ => [(h1, .inl (cy 0, 643, .inl (kc 0))), (h0, .inr (12, [.int 0, .ref h2, .int 0, .int 0, .int 0, .int (-1), .int 1, .int 0, .ref h3, .ref h4, .ref h5, .ref h6, .int 0, .ref h1, .ref h7, .int 0, .ref h8, .ref h9, .ref h10, .ref h11, .ref h12, .int 0, .ref h13, .ref h14, .ref h15, .int 0, .ref h16, .ref h17, .ref h18, .int 0, .int 0, .ref h19, .ref h20, .ref h21, .int 0, .long 0, .long 0, .ref h22, .ref h23, .ref h24, .ref h25, .ref h26, .ref h27, .ref h28, .ref h29, .ref h30, .ref h31, .int 0, .int 0, .ref h32, .ref h33, .ref h34, .ref h35, .ref h36, .ref h37, .ref h38, .ref h39, .ref h40, .int 0, .int 0, .int 0, .int 0, .long 0, .ref h41, .ref h42, .ref h43, .int 0, .int 0, .long 0]))]) (fun _ => rfl) (fun qs10 H locs hT => ?_)
  refine lv_aload_n (pc := 98) hx hb dX12_text_98 rfl (lv_at hl 2 rfl) ?_
  refine lv_iload (pc := 99) hx hb dX12_text_99 (lv_at hl 0 rfl) ?_
  refine z_cVV (pc := 101) hx hb hml hown hts hK hA hT lkV_RX12_195 (k1039_X12_draftOf l G cy h0 h1 h2 h3 h4 h5 h6 h7 h8 h9 h10 h11 h12 h13 h14 h15 h16 h17 h18 h19 h20 h21 h22 h23 h24 h25 h26 h27 h28 h29 h30 h31 h32 h33 h34 h35 h36 h37 h38 h39 h40 h41 h42 h43) [1, 0] [] rfl rfl rfl rfl rfl 0 rfl rfl (by decide) rfl hl.1 rfl (Nat.le_of_ble_eq_true rfl) dX12_text_101 ⟨Nat.le_of_ble_eq_true rfl, Nat.le_of_ble_eq_true rfl⟩ (fun _ => [(h0, .inr (12, [.int 0, .ref h2, .int 0, .int 0, .int 0, .int (-1), .int 1, .int 0, .ref h3, .ref h4, .ref h5, .ref h6, .int 0, .ref h1, .ref h7, .int 0, .ref h8, .ref h9, .ref h10, .ref h11, .ref h12, .int 0, .ref h13, .ref h14, .ref h15, .int 0, .ref h16, .ref h17, .ref h18, .int 0, .int 0, .ref h19, .ref h20, .ref h21, .int 0, .long 0, .long 0, .ref h22, .ref h23, .ref h24, .ref h25, .ref h26, .ref h27, .ref h28, .ref h29, .ref h30, .ref h31, .int 0, .int 0, .ref h32, .ref h33, .ref h34, .ref h35, .ref h36, .ref h37, .ref h38, .ref h39, .ref h40, .int 0, .int 0, .int 0, .int 0, .long 0, .ref h41, .ref h42, .ref h43, .int 0, .int 0, .long 0])), (h1, .inl (cy 0, 643, .inl (zfil (upd (kc 0) 0 1) 3 43 (-1))))]) (fun _ => rfl) (fun qs11 H locs hT => ?_)
  refine lv_aload_n (pc := 104) hx hb dX12_text_104 rfl (lv_at hl 2 rfl) ?_
  refine z_cVI (pc := 105) hx hb hml hown hts hK hA hT lkV_RX12_325 (k1036_X12_fine l G cy h0 h2 h3 h4 h5 h6 h1 h7 h8 h9 h10 h11 h12 h13 h14 h15 h16 h17 h18 h19 h20 h21 h22 h23 h24 h25 h26 h27 h28 h29 h30 h31 h32 h33 h34 h35 h36 h37 h38 h39 h40 h41 h42 h43) [0] [1] rfl rfl rfl rfl rfl 0 rfl rfl (by decide) rfl hl.1 rfl (Nat.le_of_ble_eq_true rfl) dX12_text_105 ⟨Nat.le_of_ble_eq_true rfl, Nat.le_of_ble_eq_true rfl⟩ (fun _ => [(h1, .inl (cy 0, 643, .inl (zfil (upd (kc 0) 0 1) 3 43 (-1)))), (h0, .inr (12, [.int 0, .ref h2, .int 0, .int 0, .int 0, .int (-1), .int 1, .int 0, .ref h3, .ref h4, .ref h5, .ref h6, .int 0, .ref h1, .ref h7, .int 0, .ref h8, .ref h9, .ref h10, .ref h11, .ref h12, .int 0, .ref h13, .ref h14, .ref h15, .int 0, .ref h16, .ref h17, .ref h18, .int 0, .int 0, .ref h19, .ref h20, .ref h21, .int 0, .long 0, .long 0, .ref h22, .ref h23, .ref h24, .ref h25, .ref h26, .ref h27, .ref h28, .ref h29, .ref h30, .ref h31, .int 0, .int 0, .ref h32, .ref h33, .ref h34, .ref h35, .ref h36, .ref h37, .ref h38, .ref h39, .ref h40, .int 0, .int 0, .int 0, .int 0, .long 0, .ref h41, .ref h42, .ref h43, .int 0, .int 0, .long 0]))]) (fun _ => rfl) (fun qs12 H locs hT => ?_)
  refine zb_if_eq_t (pc := 108) (tgt := 126) hx hb dX12_text_108 (by decide) (by decide) ?_
  refine lv_aload_n (pc := 126) hx hb dX12_text_126 rfl (lv_at hl 2 rfl) ?_
  refine lv_aload_n (pc := 127) hx hb dX12_text_127 rfl (lv_at hl 2 rfl) ?_
  refine z_get (pc := 128) hx hb hts hown hK hT 1 12 7 rfl rfl (by decide) rfl w7_214 rfl dX12_text_128 ?_
  refine z_put (pc := 131) (ty := .int) hx hb hts hown hK hT 1 12 5 (by decide +kernel) rfl rfl rfl rfl (by decide) rfl w7_212 (Nat.le_of_ble_eq_true rfl) dX12_text_131 [(h1, .inl (cy 0, 643, .inl (zfil (upd (kc 0) 0 1) 3 43 (-1)))), (h0, .inr (12, [.int 0, .ref h2, .int 0, .int 0, .int 0, .int 0, .int 1, .int 0, .ref h3, .ref h4, .ref h5, .ref h6, .int 0, .ref h1, .ref h7, .int 0, .ref h8, .ref h9, .ref h10, .ref h11, .ref h12, .int 0, .ref h13, .ref h14, .ref h15, .int 0, .ref h16, .ref h17, .ref h18, .int 0, .int 0, .ref h19, .ref h20, .ref h21, .int 0, .long 0, .long 0, .ref h22, .ref h23, .ref h24, .ref h25, .ref h26, .ref h27, .ref h28, .ref h29, .ref h30, .ref h31, .int 0, .int 0, .ref h32, .ref h33, .ref h34, .ref h35, .ref h36, .ref h37, .ref h38, .ref h39, .ref h40, .int 0, .int 0, .int 0, .int 0, .long 0, .ref h41, .ref h42, .ref h43, .int 0, .int 0, .long 0]))] rfl (fun H locs hT => ?_)
  refine lv_aload_n (pc := 134) hx hb dX12_text_134 rfl (lv_at hl 2 rfl) ?_
  refine z_cVI (pc := 135) hx hb hml hown hts hK hA hT lkV_RX12_325 (k1040_X12_fine l G cy h0 h2 h3 h4 h5 h6 h1 h7 h8 h9 h10 h11 h12 h13 h14 h15 h16 h17 h18 h19 h20 h21 h22 h23 h24 h25 h26 h27 h28 h29 h30 h31 h32 h33 h34 h35 h36 h37 h38 h39 h40 h41 h42 h43) [1] [0] rfl rfl rfl rfl rfl 0 rfl rfl (by decide) rfl hl.1 rfl (Nat.le_of_ble_eq_true rfl) dX12_text_135 ⟨Nat.le_of_ble_eq_true rfl, Nat.le_of_ble_eq_true rfl⟩ (fun _ => [(h1, .inl (cy 0, 643, .inl (zfil (upd (kc 0) 0 1) 3 43 (-1)))), (h0, .inr (12, [.int 0, .ref h2, .int 0, .int 0, .int 0, .int 0, .int 1, .int 0, .ref h3, .ref h4, .ref h5, .ref h6, .int 0, .ref h1, .ref h7, .int 0, .ref h8, .ref h9, .ref h10, .ref h11, .ref h12, .int 0, .ref h13, .ref h14, .ref h15, .int 0, .ref h16, .ref h17, .ref h18, .int 0, .int 0, .ref h19, .ref h20, .ref h21, .int 0, .long 0, .long 0, .ref h22, .ref h23, .ref h24, .ref h25, .ref h26, .ref h27, .ref h28, .ref h29, .ref h30, .ref h31, .int 0, .int 0, .ref h32, .ref h33, .ref h34, .ref h35, .ref h36, .ref h37, .ref h38, .ref h39, .ref h40, .int 0, .int 0, .int 0, .int 0, .long 0, .ref h41, .ref h42, .ref h43, .int 0, .int 0, .long 0]))]) (fun _ => rfl) (fun qs13 H locs hT => ?_)
  refine zb_if_ne_f (pc := 138) (tgt := 149) hx hb dX12_text_138 (by decide) (by decide) ?_
  refine lv_aload_n (pc := 141) hx hb dX12_text_141 rfl (lv_at hl 2 rfl) ?_
  refine z_get (pc := 142) hx hb hts hown hK hT 1 12 6 rfl rfl (by decide) rfl w7_213 rfl dX12_text_142 ?_
  refine lv_bipush (pc := 145) (v := 10) hx hb dX12_text_145 (by decide) ?_
  refine z_isub (pc := 147) (v := (-9)) hx hb dX12_text_147 (by decide) ?_
  exact z_iret (pc := 148) hx hb hr hlk hT (fun _ _ => 0) [1] rfl rfl rfl (Nat.le_of_ble_eq_true rfl) (Nat.le_of_ble_eq_true rfl) dX12_text_148
set_option maxHeartbeats 4000000 in
set_option maxRecDepth 100000 in
theorem k1042_L_text (l : Launch) (G : va_G) (cy : Nat → ClassId) (q1 v1 q2 v2 : Nat) (h0 h1 h2 h3 h4 h5 h6 h7 h8 h9 h10 h11 h12 h13 : Nat) (n0 : Nat) (hlon0 : 0 ≤ n0) (hhin0 : n0 < 6) : zHE (zS q1 v1 q2 v2) l G cy yL_text cL_text 5 [(0, 10, 13, 13), (0, 10, 17, 15)] 6 [.ref h0, .int (nI n0), .int 0, .ref h2] [(h0, .inr (11, [.ref h3, .ref h4, .ref h1, .ref h5, .ref h6, .ref h7, .ref h8, .ref h9, .ref h10, .ref h11, .ref h12, .int (-1), .int (-1), .int (-1), .int (-1)])), (h1, .inr (9, [.int 0, .ref h13, .int 0, .int 0, .int 0, .int 0])), (h2, .inl (cy 1, 1, .inr (.inl (kl 0))))] 0 (fun _ => [(h2, .inl (cy 1, 1, .inr (.inl (vp_updL (kl 0) 0 (-9)))))]) := by
  refine zHE.of (by decide) (Nat.le_of_ble_eq_true rfl) ?_
  intro p e s m args below meth c ls A hx hb hml hown hts hlk hr htab hl hK hE hA hT
  have hown : s.vm.findClass "CostBenchLaw" = some m.cls := hown
  have htab : c.exceptionTable.toList = [⟨0, 10, 13, 13⟩, ⟨0, 10, 17, 15⟩] := htab
  have hl : lv_has ls 5 [(0, .ref h0), (1, .int (nI n0)), (2, .int 0), (3, .ref h2)] := hl
  refine lv_aload_n (pc := 0) hx hb dL_text_0 rfl (lv_at hl 3 rfl) ?_
  refine lv_iconst (pc := 1) (v := 0) hx hb dL_text_1 (by decide) ?_
  refine lv_aload_n (pc := 2) hx hb dL_text_2 rfl (lv_at hl 0 rfl) ?_
  refine lv_iload_n (pc := 3) hx hb dL_text_3 rfl (lv_at hl 1 rfl) ?_
  refine lv_iload_n (pc := 4) hx hb dL_text_4 rfl (lv_at hl 2 rfl) ?_
  refine z_eVI (pc := 5) zS_ok hE hx hb hml hown hts hK hA hT lkV_RL_7 (k1032_X11_text l G cy q1 v1 q2 v2 h0 h1 h3 h4 h5 h6 h7 h8 h9 h10 h11 h12 h13 n0 (by omega) (by omega)) [0, 1] [2] rfl rfl rfl rfl rfl 0 rfl rfl (by decide) rfl hl.1 rfl (Nat.le_of_ble_eq_true rfl) dL_text_5 ⟨Nat.le_of_ble_eq_true rfl, Nat.le_of_ble_eq_true rfl⟩ (fun _ => [(h2, .inl (cy 1, 1, .inr (.inl (kl 0))))]) (fun _ => rfl) (fun qs1 H locs hT => ?_)
  refine lv_i2l (pc := 8) (v := (-9)) hx hb dL_text_8 (by decide) ?_
  refine z_last (pc := 9) hx hb hK hT 0 0 rfl rfl (by decide) (by decide) dL_text_9 (vp_updL (kl 0) 0 (-9)) (fun _ _ => rfl) [(h2, .inl (cy 1, 1, .inr (.inl (vp_updL (kl 0) 0 (-9)))))] rfl (fun H locs hT => ?_)
  refine lv_goto (pc := 10) (tgt := 21) hx hb dL_text_10 (by decide) ?_
  refine lv_iconst (pc := 21) (v := 0) hx hb dL_text_21 (by decide) ?_
  exact z_iret (pc := 22) hx hb hr hlk hT (fun _ _ => 0) [0] rfl rfl rfl (Nat.le_of_ble_eq_true rfl) (Nat.le_of_ble_eq_true rfl) dL_text_22
