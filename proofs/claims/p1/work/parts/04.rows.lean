theorem w1_160 : (Cond.arrayClass FieldType.int) ∈ lwg := lwg_t (tb1 160 rfl) rfl
theorem w2_9 : (Cond.arrayClass FieldType.long) ∈ lwg := lwg_t (tb2 9 rfl) rfl
theorem w2_10 : (Cond.arrayClass FieldType.boolean) ∈ lwg := lwg_t (tb2 10 rfl) rfl
theorem w3_210 : (Cond.static ⟨"java/lang/Math", "min", "(II)I"⟩) ∈ lwg := lwg_t (tb3 210 rfl) rfl
theorem w1_20 : (Cond.initialized "java/lang/Math") ∈ lwg := lwg_t (tb1 20 rfl) rfl
theorem w3_211 : (Cond.code ⟨"java/lang/Math", "min", "(II)I"⟩ prog_25_method_69_code (2 : Nat) (Option.some FieldType.int)) ∈ lwg := lwg_t (tb3 211 rfl) rfl
theorem w7_71 : (Cond.static ⟨"java/lang/Math", "min", "(JJ)J"⟩) ∈ lwg := lwg_t (tb7 71 rfl) rfl
theorem w7_72 : (Cond.code ⟨"java/lang/Math", "min", "(JJ)J"⟩ prog_25_method_70_code (4 : Nat) (Option.some FieldType.long)) ∈ lwg := lwg_t (tb7 72 rfl) rfl
theorem w2_218 : (Cond.lays "CostBench$Couples" "CostBench$Couples" "areTwins" "Z") ∈ lwg := lwg_t (tb2 218 rfl) rfl
theorem w2_220 : (Cond.lays "CostBench$Couples" "CostBench$Couples" "parted" "I") ∈ lwg := lwg_t (tb2 220 rfl) rfl
theorem w2_222 : (Cond.lays "CostBench$Couples" "CostBench$Couples" "uLetters" "I") ∈ lwg := lwg_t (tb2 222 rfl) rfl
theorem w2_224 : (Cond.lays "CostBench$Couples" "CostBench$Couples" "vLetters" "I") ∈ lwg := lwg_t (tb2 224 rfl) rfl
theorem w2_226 : (Cond.lays "CostBench$Couples" "CostBench$Couples" "vPays" "J") ∈ lwg := lwg_t (tb2 226 rfl) rfl
theorem w2_228 : (Cond.laysFinal "CostBench$Couples" "CostBench$Couples" "uWord" "[I") ∈ lwg := lwg_t (tb2 228 rfl) rfl
theorem w2_230 : (Cond.laysFinal "CostBench$Couples" "CostBench$Couples" "vWord" "[I") ∈ lwg := lwg_t (tb2 230 rfl) rfl
theorem w2_232 : (Cond.laysFinal "CostBench$Couples" "CostBench$Couples" "fromStart" "LCostBench$Sweep;") ∈ lwg := lwg_t (tb2 232 rfl) rfl
theorem w2_234 : (Cond.laysFinal "CostBench$Couples" "CostBench$Couples" "onward" "LCostBench$Sweep;") ∈ lwg := lwg_t (tb2 234 rfl) rfl
theorem w2_236 : (Cond.laysFinal "CostBench$Couples" "CostBench$Couples" "back" "LCostBench$Sweep;") ∈ lwg := lwg_t (tb2 236 rfl) rfl
theorem w2_238 : (Cond.laysFinal "CostBench$Couples" "CostBench$Couples" "good" "[Z") ∈ lwg := lwg_t (tb2 238 rfl) rfl
theorem w3_0 : (Cond.lays "CostBench$Couples" "CostBench$Couples" "shownX" "I") ∈ lwg := lwg_t (tb3 0 rfl) rfl
theorem w3_2 : (Cond.lays "CostBench$Couples" "CostBench$Couples" "shownY" "I") ∈ lwg := lwg_t (tb3 2 rfl) rfl
theorem w3_4 : (Cond.lays "CostBench$Couples" "CostBench$Couples" "shownLetter" "I") ∈ lwg := lwg_t (tb3 4 rfl) rfl
theorem w3_6 : (Cond.lays "CostBench$Couples" "CostBench$Couples" "shownPays" "J") ∈ lwg := lwg_t (tb3 6 rfl) rfl
theorem w1_209 : (Cond.lays "CostBench$History" "CostBench$History" "count" "I") ∈ lwg := lwg_t (tb1 209 rfl) rfl
theorem w1_211 : (Cond.lays "CostBench$History" "CostBench$History" "next" "I") ∈ lwg := lwg_t (tb1 211 rfl) rfl
theorem w1_213 : (Cond.laysFinal "CostBench$History" "CostBench$History" "slot" "[I") ∈ lwg := lwg_t (tb1 213 rfl) rfl
theorem w1_215 : (Cond.laysFinal "CostBench$History" "CostBench$History" "machine" "[LCostBench$Machine;") ∈ lwg := lwg_t (tb1 215 rfl) rfl
theorem w1_217 : (Cond.laysFinal "CostBench$History" "CostBench$History" "tapeCount" "[I") ∈ lwg := lwg_t (tb1 217 rfl) rfl
theorem w1_219 : (Cond.laysFinal "CostBench$History" "CostBench$History" "tapeBytes" "[[I") ∈ lwg := lwg_t (tb1 219 rfl) rfl
theorem w2_53 : (Cond.laysFinal "CostBench$Joiner" "CostBench$Joiner" "number" "[I") ∈ lwg := lwg_t (tb2 53 rfl) rfl
theorem w2_55 : (Cond.laysFinal "CostBench$Joiner" "CostBench$Joiner" "firstState" "[I") ∈ lwg := lwg_t (tb2 55 rfl) rfl
theorem w2_57 : (Cond.laysFinal "CostBench$Joiner" "CostBench$Joiner" "secondState" "[I") ∈ lwg := lwg_t (tb2 57 rfl) rfl
theorem w2_59 : (Cond.laysFinal "CostBench$Joiner" "CostBench$Joiner" "order" "[I") ∈ lwg := lwg_t (tb2 59 rfl) rfl
theorem w1_131 : (Cond.lays "CostBench$Machine" "CostBench$Machine" "states" "I") ∈ lwg := lwg_t (tb1 131 rfl) rfl
theorem w1_133 : (Cond.lays "CostBench$Machine" "CostBench$Machine" "startCost" "I") ∈ lwg := lwg_t (tb1 133 rfl) rfl
theorem w1_135 : (Cond.lays "CostBench$Machine" "CostBench$Machine" "arcs" "I") ∈ lwg := lwg_t (tb1 135 rfl) rfl
theorem w1_137 : (Cond.lays "CostBench$Machine" "CostBench$Machine" "tooLarge" "Z") ∈ lwg := lwg_t (tb1 137 rfl) rfl
theorem w1_139 : (Cond.laysFinal "CostBench$Machine" "CostBench$Machine" "ending" "[I") ∈ lwg := lwg_t (tb1 139 rfl) rfl
theorem w1_141 : (Cond.laysFinal "CostBench$Machine" "CostBench$Machine" "from" "[I") ∈ lwg := lwg_t (tb1 141 rfl) rfl
theorem w1_143 : (Cond.laysFinal "CostBench$Machine" "CostBench$Machine" "to" "[I") ∈ lwg := lwg_t (tb1 143 rfl) rfl
theorem w1_145 : (Cond.laysFinal "CostBench$Machine" "CostBench$Machine" "in" "[I") ∈ lwg := lwg_t (tb1 145 rfl) rfl
theorem w1_147 : (Cond.laysFinal "CostBench$Machine" "CostBench$Machine" "out" "[I") ∈ lwg := lwg_t (tb1 147 rfl) rfl
theorem w1_149 : (Cond.laysFinal "CostBench$Machine" "CostBench$Machine" "cost" "[I") ∈ lwg := lwg_t (tb1 149 rfl) rfl
theorem w1_151 : (Cond.laysFinal "CostBench$Machine" "CostBench$Machine" "leavingAt" "[I") ∈ lwg := lwg_t (tb1 151 rfl) rfl
theorem w1_153 : (Cond.laysFinal "CostBench$Machine" "CostBench$Machine" "leaving" "[I") ∈ lwg := lwg_t (tb1 153 rfl) rfl
theorem w1_155 : (Cond.laysFinal "CostBench$Machine" "CostBench$Machine" "comingAt" "[I") ∈ lwg := lwg_t (tb1 155 rfl) rfl
theorem w1_157 : (Cond.laysFinal "CostBench$Machine" "CostBench$Machine" "coming" "[I") ∈ lwg := lwg_t (tb1 157 rfl) rfl
theorem w2_26 : (Cond.laysFinal "CostBench$Maker" "CostBench$Maker" "reach" "LCostBench$Reach;") ∈ lwg := lwg_t (tb2 26 rfl) rfl
theorem w2_28 : (Cond.laysFinal "CostBench$Maker" "CostBench$Maker" "number" "[I") ∈ lwg := lwg_t (tb2 28 rfl) rfl
theorem w2_30 : (Cond.laysFinal "CostBench$Maker" "CostBench$Maker" "rows" "[I") ∈ lwg := lwg_t (tb2 30 rfl) rfl
theorem w2_32 : (Cond.laysFinal "CostBench$Maker" "CostBench$Maker" "next" "[I") ∈ lwg := lwg_t (tb2 32 rfl) rfl
theorem w2_34 : (Cond.laysFinal "CostBench$Maker" "CostBench$Maker" "kind" "[I") ∈ lwg := lwg_t (tb2 34 rfl) rfl
theorem w2_36 : (Cond.laysFinal "CostBench$Maker" "CostBench$Maker" "finer" "[I") ∈ lwg := lwg_t (tb2 36 rfl) rfl
theorem w2_38 : (Cond.laysFinal "CostBench$Maker" "CostBench$Maker" "leastOf" "[I") ∈ lwg := lwg_t (tb2 38 rfl) rfl
theorem w2_40 : (Cond.lays "CostBench$Maker" "CostBench$Maker" "kinds" "I") ∈ lwg := lwg_t (tb2 40 rfl) rfl
theorem w2_73 : (Cond.laysFinal "CostBench$Pairing" "CostBench$Pairing" "reads" "[I") ∈ lwg := lwg_t (tb2 73 rfl) rfl
theorem w2_75 : (Cond.laysFinal "CostBench$Pairing" "CostBench$Pairing" "writes" "[I") ∈ lwg := lwg_t (tb2 75 rfl) rfl
theorem w2_77 : (Cond.lays "CostBench$Pairing" "CostBench$Pairing" "readLetters" "I") ∈ lwg := lwg_t (tb2 77 rfl) rfl
theorem w2_79 : (Cond.lays "CostBench$Pairing" "CostBench$Pairing" "writeLetters" "I") ∈ lwg := lwg_t (tb2 79 rfl) rfl
theorem w2_81 : (Cond.laysFinal "CostBench$Pairing" "CostBench$Pairing" "paid" "[I") ∈ lwg := lwg_t (tb2 81 rfl) rfl
theorem w1_236 : (Cond.laysFinal "CostBench$Reach" "CostBench$Reach" "key" "[J") ∈ lwg := lwg_t (tb1 236 rfl) rfl
theorem w1_238 : (Cond.laysFinal "CostBench$Reach" "CostBench$Reach" "come" "[Z") ∈ lwg := lwg_t (tb1 238 rfl) rfl
theorem w2_0 : (Cond.laysFinal "CostBench$Reach" "CostBench$Reach" "now" "[J") ∈ lwg := lwg_t (tb2 0 rfl) rfl
theorem w2_2 : (Cond.laysFinal "CostBench$Reach" "CostBench$Reach" "next" "[J") ∈ lwg := lwg_t (tb2 2 rfl) rfl
theorem w2_4 : (Cond.laysFinal "CostBench$Reach" "CostBench$Reach" "best" "[I") ∈ lwg := lwg_t (tb2 4 rfl) rfl
theorem w2_6 : (Cond.laysFinal "CostBench$Reach" "CostBench$Reach" "way" "[I") ∈ lwg := lwg_t (tb2 6 rfl) rfl
theorem w2_106 : (Cond.lays "CostBench$Steps" "CostBench$Steps" "states" "I") ∈ lwg := lwg_t (tb2 106 rfl) rfl
theorem w2_108 : (Cond.lays "CostBench$Steps" "CostBench$Steps" "startsWith" "I") ∈ lwg := lwg_t (tb2 108 rfl) rfl
theorem w2_110 : (Cond.laysFinal "CostBench$Steps" "CostBench$Steps" "reach" "LCostBench$Reach;") ∈ lwg := lwg_t (tb2 110 rfl) rfl
theorem w2_112 : (Cond.laysFinal "CostBench$Steps" "CostBench$Steps" "firstOf" "[I") ∈ lwg := lwg_t (tb2 112 rfl) rfl
theorem w2_114 : (Cond.laysFinal "CostBench$Steps" "CostBench$Steps" "from" "[I") ∈ lwg := lwg_t (tb2 114 rfl) rfl
theorem w2_116 : (Cond.laysFinal "CostBench$Steps" "CostBench$Steps" "to" "[I") ∈ lwg := lwg_t (tb2 116 rfl) rfl
theorem w2_118 : (Cond.laysFinal "CostBench$Steps" "CostBench$Steps" "cost" "[I") ∈ lwg := lwg_t (tb2 118 rfl) rfl
theorem w2_120 : (Cond.laysFinal "CostBench$Steps" "CostBench$Steps" "ending" "[I") ∈ lwg := lwg_t (tb2 120 rfl) rfl
theorem w2_179 : (Cond.lays "CostBench$Sweep" "CostBench$Sweep" "count" "I") ∈ lwg := lwg_t (tb2 179 rfl) rfl
theorem w2_181 : (Cond.laysFinal "CostBench$Sweep" "CostBench$Sweep" "queue" "[I") ∈ lwg := lwg_t (tb2 181 rfl) rfl
theorem w2_183 : (Cond.laysFinal "CostBench$Sweep" "CostBench$Sweep" "seenBy" "[I") ∈ lwg := lwg_t (tb2 183 rfl) rfl
theorem w2_185 : (Cond.lays "CostBench$Sweep" "CostBench$Sweep" "sweep" "I") ∈ lwg := lwg_t (tb2 185 rfl) rfl
theorem w2_187 : (Cond.laysFinal "CostBench$Sweep" "CostBench$Sweep" "letters" "[I") ∈ lwg := lwg_t (tb2 187 rfl) rfl
theorem w2_189 : (Cond.laysFinal "CostBench$Sweep" "CostBench$Sweep" "pays" "[J") ∈ lwg := lwg_t (tb2 189 rfl) rfl
theorem w2_191 : (Cond.laysFinal "CostBench$Sweep" "CostBench$Sweep" "before" "[I") ∈ lwg := lwg_t (tb2 191 rfl) rfl
theorem w2_193 : (Cond.laysFinal "CostBench$Sweep" "CostBench$Sweep" "letter" "[I") ∈ lwg := lwg_t (tb2 193 rfl) rfl
theorem w1_179 : (Cond.lays "CostBench$Tape" "CostBench$Tape" "count" "I") ∈ lwg := lwg_t (tb1 179 rfl) rfl
theorem w1_181 : (Cond.laysFinal "CostBench$Tape" "CostBench$Tape" "bytes" "[I") ∈ lwg := lwg_t (tb1 181 rfl) rfl
theorem w1_183 : (Cond.lays "CostBench$Tape" "CostBench$Tape" "faultKind" "I") ∈ lwg := lwg_t (tb1 183 rfl) rfl
theorem w1_185 : (Cond.lays "CostBench$Tape" "CostBench$Tape" "faultAt" "I") ∈ lwg := lwg_t (tb1 185 rfl) rfl
theorem w1_187 : (Cond.lays "CostBench$Tape" "CostBench$Tape" "length" "I") ∈ lwg := lwg_t (tb1 187 rfl) rfl
theorem w1_189 : (Cond.lays "CostBench$Tape" "CostBench$Tape" "at" "I") ∈ lwg := lwg_t (tb1 189 rfl) rfl
theorem w2_135 : (Cond.lays "CostBench$WordTree" "CostBench$WordTree" "apartLetters" "I") ∈ lwg := lwg_t (tb2 135 rfl) rfl
theorem w2_137 : (Cond.laysFinal "CostBench$WordTree" "CostBench$WordTree" "apartWord" "[I") ∈ lwg := lwg_t (tb2 137 rfl) rfl
theorem w2_139 : (Cond.laysFinal "CostBench$WordTree" "CostBench$WordTree" "first" "LCostBench$Steps;") ∈ lwg := lwg_t (tb2 139 rfl) rfl
theorem w2_141 : (Cond.laysFinal "CostBench$WordTree" "CostBench$WordTree" "second" "LCostBench$Steps;") ∈ lwg := lwg_t (tb2 141 rfl) rfl
theorem w2_143 : (Cond.lays "CostBench$WordTree" "CostBench$WordTree" "aim" "I") ∈ lwg := lwg_t (tb2 143 rfl) rfl
theorem w2_145 : (Cond.lays "CostBench$WordTree" "CostBench$WordTree" "width" "I") ∈ lwg := lwg_t (tb2 145 rfl) rfl
theorem w2_147 : (Cond.laysFinal "CostBench$WordTree" "CostBench$WordTree" "rows" "[I") ∈ lwg := lwg_t (tb2 147 rfl) rfl
theorem w2_149 : (Cond.laysFinal "CostBench$WordTree" "CostBench$WordTree" "keptRow" "[I") ∈ lwg := lwg_t (tb2 149 rfl) rfl
theorem w2_151 : (Cond.laysFinal "CostBench$WordTree" "CostBench$WordTree" "keptLeft" "[I") ∈ lwg := lwg_t (tb2 151 rfl) rfl
theorem w2_153 : (Cond.laysFinal "CostBench$WordTree" "CostBench$WordTree" "keptAnswer" "[I") ∈ lwg := lwg_t (tb2 153 rfl) rfl
theorem w3_24 : (Cond.laysFinal "CostBench" "CostBench" "slots" "[LCostBench$Machine;") ∈ lwg := lwg_t (tb3 24 rfl) rfl
theorem w3_26 : (Cond.laysFinal "CostBench" "CostBench" "made" "LCostBench$Machine;") ∈ lwg := lwg_t (tb3 26 rfl) rfl
theorem w3_28 : (Cond.laysFinal "CostBench" "CostBench" "tape" "LCostBench$Tape;") ∈ lwg := lwg_t (tb3 28 rfl) rfl
theorem w3_30 : (Cond.laysFinal "CostBench" "CostBench" "history" "LCostBench$History;") ∈ lwg := lwg_t (tb3 30 rfl) rfl
theorem w3_32 : (Cond.laysFinal "CostBench" "CostBench" "reach" "LCostBench$Reach;") ∈ lwg := lwg_t (tb3 32 rfl) rfl
theorem w3_34 : (Cond.laysFinal "CostBench" "CostBench" "maker" "LCostBench$Maker;") ∈ lwg := lwg_t (tb3 34 rfl) rfl
theorem w3_36 : (Cond.laysFinal "CostBench" "CostBench" "joiner" "LCostBench$Joiner;") ∈ lwg := lwg_t (tb3 36 rfl) rfl
theorem w3_38 : (Cond.laysFinal "CostBench" "CostBench" "pairing" "LCostBench$Pairing;") ∈ lwg := lwg_t (tb3 38 rfl) rfl
theorem w3_40 : (Cond.laysFinal "CostBench" "CostBench" "tree" "LCostBench$WordTree;") ∈ lwg := lwg_t (tb3 40 rfl) rfl
theorem w3_42 : (Cond.laysFinal "CostBench" "CostBench" "couples" "LCostBench$Couples;") ∈ lwg := lwg_t (tb3 42 rfl) rfl
theorem w3_44 : (Cond.laysFinal "CostBench" "CostBench" "refused" "[I") ∈ lwg := lwg_t (tb3 44 rfl) rfl
theorem w3_46 : (Cond.lays "CostBench" "CostBench" "faultPlace" "I") ∈ lwg := lwg_t (tb3 46 rfl) rfl
theorem w3_48 : (Cond.lays "CostBench" "CostBench" "couplesSlot" "I") ∈ lwg := lwg_t (tb3 48 rfl) rfl
theorem w3_50 : (Cond.lays "CostBench" "CostBench" "apartFirst" "I") ∈ lwg := lwg_t (tb3 50 rfl) rfl
theorem w3_52 : (Cond.lays "CostBench" "CostBench" "apartSecond" "I") ∈ lwg := lwg_t (tb3 52 rfl) rfl
theorem w8_36 : (Cond.lays "CostBenchModel" "CostBenchModel" "thrown" "I") ∈ lwg := lwg_t (tb8 36 rfl) rfl
theorem w8_38 : (Cond.laysFinal "CostBenchModel" "CostBenchModel" "refused" "[I") ∈ lwg := lwg_t (tb8 38 rfl) rfl
theorem w8_40 : (Cond.lays "CostBenchModel" "CostBenchModel" "tape" "I") ∈ lwg := lwg_t (tb8 40 rfl) rfl
theorem w8_42 : (Cond.lays "CostBenchModel" "CostBenchModel" "size" "I") ∈ lwg := lwg_t (tb8 42 rfl) rfl
theorem w8_44 : (Cond.lays "CostBenchModel" "CostBenchModel" "at" "I") ∈ lwg := lwg_t (tb8 44 rfl) rfl
theorem w8_46 : (Cond.lays "CostBenchModel" "CostBenchModel" "place" "I") ∈ lwg := lwg_t (tb8 46 rfl) rfl
theorem w8_48 : (Cond.lays "CostBenchModel" "CostBenchModel" "fault" "I") ∈ lwg := lwg_t (tb8 48 rfl) rfl
theorem w8_50 : (Cond.lays "CostBenchModel" "CostBenchModel" "faultAt" "I") ∈ lwg := lwg_t (tb8 50 rfl) rfl
theorem w8_52 : (Cond.laysFinal "CostBenchModel" "CostBenchModel" "fed" "[I") ∈ lwg := lwg_t (tb8 52 rfl) rfl
theorem w8_54 : (Cond.laysFinal "CostBenchModel" "CostBenchModel" "slot" "[[I") ∈ lwg := lwg_t (tb8 54 rfl) rfl
theorem w8_56 : (Cond.laysFinal "CostBenchModel" "CostBenchModel" "past" "[[I") ∈ lwg := lwg_t (tb8 56 rfl) rfl
theorem w8_58 : (Cond.laysFinal "CostBenchModel" "CostBenchModel" "pastSlot" "[I") ∈ lwg := lwg_t (tb8 58 rfl) rfl
theorem w8_60 : (Cond.lays "CostBenchModel" "CostBenchModel" "backs" "I") ∈ lwg := lwg_t (tb8 60 rfl) rfl
theorem w8_62 : (Cond.laysFinal "CostBenchModel" "CostBenchModel" "draft" "[I") ∈ lwg := lwg_t (tb8 62 rfl) rfl
theorem w8_64 : (Cond.laysFinal "CostBenchModel" "CostBenchModel" "other" "[I") ∈ lwg := lwg_t (tb8 64 rfl) rfl
theorem w8_66 : (Cond.lays "CostBenchModel" "CostBenchModel" "tooLarge" "Z") ∈ lwg := lwg_t (tb8 66 rfl) rfl
theorem w8_68 : (Cond.laysFinal "CostBenchModel" "CostBenchModel" "aheadOf" "[J") ∈ lwg := lwg_t (tb8 68 rfl) rfl
theorem w8_70 : (Cond.laysFinal "CostBenchModel" "CostBenchModel" "isCome" "[Z") ∈ lwg := lwg_t (tb8 70 rfl) rfl
theorem w8_72 : (Cond.laysFinal "CostBenchModel" "CostBenchModel" "numberOf" "[I") ∈ lwg := lwg_t (tb8 72 rfl) rfl
theorem w8_74 : (Cond.laysFinal "CostBenchModel" "CostBenchModel" "silent" "[[J") ∈ lwg := lwg_t (tb8 74 rfl) rfl
theorem w8_76 : (Cond.laysFinal "CostBenchModel" "CostBenchModel" "owed" "[[J") ∈ lwg := lwg_t (tb8 76 rfl) rfl
theorem w8_78 : (Cond.lays "CostBenchModel" "CostBenchModel" "rowsMany" "I") ∈ lwg := lwg_t (tb8 78 rfl) rfl
theorem w8_80 : (Cond.laysFinal "CostBenchModel" "CostBenchModel" "classOf" "[I") ∈ lwg := lwg_t (tb8 80 rfl) rfl
theorem w8_82 : (Cond.laysFinal "CostBenchModel" "CostBenchModel" "classThen" "[I") ∈ lwg := lwg_t (tb8 82 rfl) rfl
theorem w8_84 : (Cond.laysFinal "CostBenchModel" "CostBenchModel" "threes" "[I") ∈ lwg := lwg_t (tb8 84 rfl) rfl
theorem w8_86 : (Cond.lays "CostBenchModel" "CostBenchModel" "threesMany" "I") ∈ lwg := lwg_t (tb8 86 rfl) rfl
theorem w8_88 : (Cond.laysFinal "CostBenchModel" "CostBenchModel" "leftOf" "[[J") ∈ lwg := lwg_t (tb8 88 rfl) rfl
theorem w8_90 : (Cond.laysFinal "CostBenchModel" "CostBenchModel" "one" "[I") ∈ lwg := lwg_t (tb8 90 rfl) rfl
theorem w8_92 : (Cond.laysFinal "CostBenchModel" "CostBenchModel" "two" "[I") ∈ lwg := lwg_t (tb8 92 rfl) rfl
theorem w8_94 : (Cond.lays "CostBenchModel" "CostBenchModel" "oneMany" "I") ∈ lwg := lwg_t (tb8 94 rfl) rfl
theorem w8_96 : (Cond.lays "CostBenchModel" "CostBenchModel" "twoMany" "I") ∈ lwg := lwg_t (tb8 96 rfl) rfl
theorem w8_98 : (Cond.laysFinal "CostBenchModel" "CostBenchModel" "till" "[J") ∈ lwg := lwg_t (tb8 98 rfl) rfl
theorem w8_100 : (Cond.laysFinal "CostBenchModel" "CostBenchModel" "level" "[[J") ∈ lwg := lwg_t (tb8 100 rfl) rfl
theorem w8_102 : (Cond.laysFinal "CostBenchModel" "CostBenchModel" "spelt" "[I") ∈ lwg := lwg_t (tb8 102 rfl) rfl
theorem w8_104 : (Cond.lays "CostBenchModel" "CostBenchModel" "wordsMany" "I") ∈ lwg := lwg_t (tb8 104 rfl) rfl
theorem w8_106 : (Cond.lays "CostBenchModel" "CostBenchModel" "wordsLeast" "J") ∈ lwg := lwg_t (tb8 106 rfl) rfl
theorem w8_108 : (Cond.lays "CostBenchModel" "CostBenchModel" "wordsMost" "J") ∈ lwg := lwg_t (tb8 108 rfl) rfl
theorem w8_110 : (Cond.laysFinal "CostBenchModel" "CostBenchModel" "seenAs" "[I") ∈ lwg := lwg_t (tb8 110 rfl) rfl
theorem w8_112 : (Cond.laysFinal "CostBenchModel" "CostBenchModel" "order" "[I") ∈ lwg := lwg_t (tb8 112 rfl) rfl
theorem w8_114 : (Cond.laysFinal "CostBenchModel" "CostBenchModel" "ahead" "[I") ∈ lwg := lwg_t (tb8 114 rfl) rfl
theorem w8_116 : (Cond.laysFinal "CostBenchModel" "CostBenchModel" "letterOf" "[I") ∈ lwg := lwg_t (tb8 116 rfl) rfl
theorem w8_118 : (Cond.laysFinal "CostBenchModel" "CostBenchModel" "pays" "[J") ∈ lwg := lwg_t (tb8 118 rfl) rfl
theorem w8_120 : (Cond.laysFinal "CostBenchModel" "CostBenchModel" "backAs" "[I") ∈ lwg := lwg_t (tb8 120 rfl) rfl
theorem w8_122 : (Cond.laysFinal "CostBenchModel" "CostBenchModel" "backOrder" "[I") ∈ lwg := lwg_t (tb8 122 rfl) rfl
theorem w8_124 : (Cond.laysFinal "CostBenchModel" "CostBenchModel" "backNext" "[I") ∈ lwg := lwg_t (tb8 124 rfl) rfl
theorem w8_126 : (Cond.laysFinal "CostBenchModel" "CostBenchModel" "backLetter" "[I") ∈ lwg := lwg_t (tb8 126 rfl) rfl
theorem w8_128 : (Cond.laysFinal "CostBenchModel" "CostBenchModel" "backPays" "[J") ∈ lwg := lwg_t (tb8 128 rfl) rfl
theorem w8_130 : (Cond.lays "CostBenchModel" "CostBenchModel" "seenMany" "I") ∈ lwg := lwg_t (tb8 130 rfl) rfl
theorem w8_132 : (Cond.lays "CostBenchModel" "CostBenchModel" "backMany" "I") ∈ lwg := lwg_t (tb8 132 rfl) rfl
theorem w8_134 : (Cond.laysFinal "CostBenchModel" "CostBenchModel" "pairFrom" "[I") ∈ lwg := lwg_t (tb8 134 rfl) rfl
theorem w8_136 : (Cond.laysFinal "CostBenchModel" "CostBenchModel" "pairTo" "[I") ∈ lwg := lwg_t (tb8 136 rfl) rfl
theorem w8_138 : (Cond.laysFinal "CostBenchModel" "CostBenchModel" "pairLetter" "[I") ∈ lwg := lwg_t (tb8 138 rfl) rfl
theorem w8_140 : (Cond.laysFinal "CostBenchModel" "CostBenchModel" "byFrom" "[I") ∈ lwg := lwg_t (tb8 140 rfl) rfl
theorem w8_142 : (Cond.laysFinal "CostBenchModel" "CostBenchModel" "byTo" "[I") ∈ lwg := lwg_t (tb8 142 rfl) rfl
theorem w8_144 : (Cond.laysFinal "CostBenchModel" "CostBenchModel" "firstFrom" "[I") ∈ lwg := lwg_t (tb8 144 rfl) rfl
theorem w8_146 : (Cond.laysFinal "CostBenchModel" "CostBenchModel" "firstTo" "[I") ∈ lwg := lwg_t (tb8 146 rfl) rfl
theorem w8_148 : (Cond.laysFinal "CostBenchModel" "CostBenchModel" "filled" "[I") ∈ lwg := lwg_t (tb8 148 rfl) rfl
theorem w8_150 : (Cond.laysFinal "CostBenchModel" "CostBenchModel" "pairPays" "[J") ∈ lwg := lwg_t (tb8 150 rfl) rfl
theorem w8_152 : (Cond.lays "CostBenchModel" "CostBenchModel" "pairs" "I") ∈ lwg := lwg_t (tb8 152 rfl) rfl
theorem w8_154 : (Cond.lays "CostBenchModel" "CostBenchModel" "shownFrom" "I") ∈ lwg := lwg_t (tb8 154 rfl) rfl
theorem w8_156 : (Cond.lays "CostBenchModel" "CostBenchModel" "shownTo" "I") ∈ lwg := lwg_t (tb8 156 rfl) rfl
theorem w8_158 : (Cond.lays "CostBenchModel" "CostBenchModel" "shownLetter" "I") ∈ lwg := lwg_t (tb8 158 rfl) rfl
theorem w8_160 : (Cond.lays "CostBenchModel" "CostBenchModel" "shownPays" "J") ∈ lwg := lwg_t (tb8 160 rfl) rfl
theorem w8_162 : (Cond.laysFinal "CostBenchModel" "CostBenchModel" "come" "[I") ∈ lwg := lwg_t (tb8 162 rfl) rfl
theorem w8_164 : (Cond.laysFinal "CostBenchModel" "CostBenchModel" "wordU" "[I") ∈ lwg := lwg_t (tb8 164 rfl) rfl
theorem w8_166 : (Cond.laysFinal "CostBenchModel" "CostBenchModel" "wordV" "[I") ∈ lwg := lwg_t (tb8 166 rfl) rfl
theorem w8_168 : (Cond.lays "CostBenchModel" "CostBenchModel" "manyU" "I") ∈ lwg := lwg_t (tb8 168 rfl) rfl
theorem w8_170 : (Cond.lays "CostBenchModel" "CostBenchModel" "manyV" "I") ∈ lwg := lwg_t (tb8 170 rfl) rfl
theorem w8_172 : (Cond.lays "CostBenchModel" "CostBenchModel" "paidV" "J") ∈ lwg := lwg_t (tb8 172 rfl) rfl
theorem zin0 : ∀ w ∈ u_ws RX0 TX0 15, w ∈ lwg := by
  intro w hw
  obtain ⟨k, hk, rfl⟩ := List.mem_map.mp hw
  have hk := List.mem_range.mp hk
  match k, hk with
  | 0, _ => exact w2_218
  | 1, _ => exact w2_220
  | 2, _ => exact w2_222
  | 3, _ => exact w2_224
  | 4, _ => exact w2_226
  | 5, _ => exact w2_228
  | 6, _ => exact w2_230
  | 7, _ => exact w2_232
  | 8, _ => exact w2_234
  | 9, _ => exact w2_236
  | 10, _ => exact w2_238
  | 11, _ => exact w3_0
  | 12, _ => exact w3_2
  | 13, _ => exact w3_4
  | 14, _ => exact w3_6
  | k + 15, h => exact absurd h (by omega)
theorem zin1 : ∀ w ∈ u_ws RX1 TX1 6, w ∈ lwg := by
  intro w hw
  obtain ⟨k, hk, rfl⟩ := List.mem_map.mp hw
  have hk := List.mem_range.mp hk
  match k, hk with
  | 0, _ => exact w1_209
  | 1, _ => exact w1_211
  | 2, _ => exact w1_213
  | 3, _ => exact w1_215
  | 4, _ => exact w1_217
  | 5, _ => exact w1_219
  | k + 6, h => exact absurd h (by omega)
theorem zin2 : ∀ w ∈ u_ws RX2 TX2 4, w ∈ lwg := by
  intro w hw
  obtain ⟨k, hk, rfl⟩ := List.mem_map.mp hw
  have hk := List.mem_range.mp hk
  match k, hk with
  | 0, _ => exact w2_53
  | 1, _ => exact w2_55
  | 2, _ => exact w2_57
  | 3, _ => exact w2_59
  | k + 4, h => exact absurd h (by omega)
theorem zin3 : ∀ w ∈ u_ws RX3 TX3 14, w ∈ lwg := by
  intro w hw
  obtain ⟨k, hk, rfl⟩ := List.mem_map.mp hw
  have hk := List.mem_range.mp hk
  match k, hk with
  | 0, _ => exact w1_131
  | 1, _ => exact w1_133
  | 2, _ => exact w1_135
  | 3, _ => exact w1_137
  | 4, _ => exact w1_139
  | 5, _ => exact w1_141
  | 6, _ => exact w1_143
  | 7, _ => exact w1_145
  | 8, _ => exact w1_147
  | 9, _ => exact w1_149
  | 10, _ => exact w1_151
  | 11, _ => exact w1_153
  | 12, _ => exact w1_155
  | 13, _ => exact w1_157
  | k + 14, h => exact absurd h (by omega)
theorem zin4 : ∀ w ∈ u_ws RX4 TX4 8, w ∈ lwg := by
  intro w hw
  obtain ⟨k, hk, rfl⟩ := List.mem_map.mp hw
  have hk := List.mem_range.mp hk
  match k, hk with
  | 0, _ => exact w2_26
  | 1, _ => exact w2_28
  | 2, _ => exact w2_30
  | 3, _ => exact w2_32
  | 4, _ => exact w2_34
  | 5, _ => exact w2_36
  | 6, _ => exact w2_38
  | 7, _ => exact w2_40
  | k + 8, h => exact absurd h (by omega)
theorem zin5 : ∀ w ∈ u_ws RX5 TX5 5, w ∈ lwg := by
  intro w hw
  obtain ⟨k, hk, rfl⟩ := List.mem_map.mp hw
  have hk := List.mem_range.mp hk
  match k, hk with
  | 0, _ => exact w2_73
  | 1, _ => exact w2_75
  | 2, _ => exact w2_77
  | 3, _ => exact w2_79
  | 4, _ => exact w2_81
  | k + 5, h => exact absurd h (by omega)
theorem zin6 : ∀ w ∈ u_ws RX6 TX6 6, w ∈ lwg := by
  intro w hw
  obtain ⟨k, hk, rfl⟩ := List.mem_map.mp hw
  have hk := List.mem_range.mp hk
  match k, hk with
  | 0, _ => exact w1_236
  | 1, _ => exact w1_238
  | 2, _ => exact w2_0
  | 3, _ => exact w2_2
  | 4, _ => exact w2_4
  | 5, _ => exact w2_6
  | k + 6, h => exact absurd h (by omega)
theorem zin7 : ∀ w ∈ u_ws RX7 TX7 8, w ∈ lwg := by
  intro w hw
  obtain ⟨k, hk, rfl⟩ := List.mem_map.mp hw
  have hk := List.mem_range.mp hk
  match k, hk with
  | 0, _ => exact w2_106
  | 1, _ => exact w2_108
  | 2, _ => exact w2_110
  | 3, _ => exact w2_112
  | 4, _ => exact w2_114
  | 5, _ => exact w2_116
  | 6, _ => exact w2_118
  | 7, _ => exact w2_120
  | k + 8, h => exact absurd h (by omega)
theorem zin8 : ∀ w ∈ u_ws RX8 TX8 8, w ∈ lwg := by
  intro w hw
  obtain ⟨k, hk, rfl⟩ := List.mem_map.mp hw
  have hk := List.mem_range.mp hk
  match k, hk with
  | 0, _ => exact w2_179
  | 1, _ => exact w2_181
  | 2, _ => exact w2_183
  | 3, _ => exact w2_185
  | 4, _ => exact w2_187
  | 5, _ => exact w2_189
  | 6, _ => exact w2_191
  | 7, _ => exact w2_193
  | k + 8, h => exact absurd h (by omega)
theorem zin9 : ∀ w ∈ u_ws RX9 TX9 6, w ∈ lwg := by
  intro w hw
  obtain ⟨k, hk, rfl⟩ := List.mem_map.mp hw
  have hk := List.mem_range.mp hk
  match k, hk with
  | 0, _ => exact w1_179
  | 1, _ => exact w1_181
  | 2, _ => exact w1_183
  | 3, _ => exact w1_185
  | 4, _ => exact w1_187
  | 5, _ => exact w1_189
  | k + 6, h => exact absurd h (by omega)
theorem zin10 : ∀ w ∈ u_ws RX10 TX10 10, w ∈ lwg := by
  intro w hw
  obtain ⟨k, hk, rfl⟩ := List.mem_map.mp hw
  have hk := List.mem_range.mp hk
  match k, hk with
  | 0, _ => exact w2_135
  | 1, _ => exact w2_137
  | 2, _ => exact w2_139
  | 3, _ => exact w2_141
  | 4, _ => exact w2_143
  | 5, _ => exact w2_145
  | 6, _ => exact w2_147
  | 7, _ => exact w2_149
  | 8, _ => exact w2_151
  | 9, _ => exact w2_153
  | k + 10, h => exact absurd h (by omega)
theorem zin11 : ∀ w ∈ u_ws RX11 TX11 15, w ∈ lwg := by
  intro w hw
  obtain ⟨k, hk, rfl⟩ := List.mem_map.mp hw
  have hk := List.mem_range.mp hk
  match k, hk with
  | 0, _ => exact w3_24
  | 1, _ => exact w3_26
  | 2, _ => exact w3_28
  | 3, _ => exact w3_30
  | 4, _ => exact w3_32
  | 5, _ => exact w3_34
  | 6, _ => exact w3_36
  | 7, _ => exact w3_38
  | 8, _ => exact w3_40
  | 9, _ => exact w3_42
  | 10, _ => exact w3_44
  | 11, _ => exact w3_46
  | 12, _ => exact w3_48
  | 13, _ => exact w3_50
  | 14, _ => exact w3_52
  | k + 15, h => exact absurd h (by omega)
theorem zin12 : ∀ w ∈ u_ws RX12 TX12 69, w ∈ lwg := by
  intro w hw
  obtain ⟨k, hk, rfl⟩ := List.mem_map.mp hw
  have hk := List.mem_range.mp hk
  match k, hk with
  | 0, _ => exact w8_36
  | 1, _ => exact w8_38
  | 2, _ => exact w8_40
  | 3, _ => exact w8_42
  | 4, _ => exact w8_44
  | 5, _ => exact w8_46
  | 6, _ => exact w8_48
  | 7, _ => exact w8_50
  | 8, _ => exact w8_52
  | 9, _ => exact w8_54
  | 10, _ => exact w8_56
  | 11, _ => exact w8_58
  | 12, _ => exact w8_60
  | 13, _ => exact w8_62
  | 14, _ => exact w8_64
  | 15, _ => exact w8_66
  | 16, _ => exact w8_68
  | 17, _ => exact w8_70
  | 18, _ => exact w8_72
  | 19, _ => exact w8_74
  | 20, _ => exact w8_76
  | 21, _ => exact w8_78
  | 22, _ => exact w8_80
  | 23, _ => exact w8_82
  | 24, _ => exact w8_84
  | 25, _ => exact w8_86
  | 26, _ => exact w8_88
  | 27, _ => exact w8_90
  | 28, _ => exact w8_92
  | 29, _ => exact w8_94
  | 30, _ => exact w8_96
  | 31, _ => exact w8_98
  | 32, _ => exact w8_100
  | 33, _ => exact w8_102
  | 34, _ => exact w8_104
  | 35, _ => exact w8_106
  | 36, _ => exact w8_108
  | 37, _ => exact w8_110
  | 38, _ => exact w8_112
  | 39, _ => exact w8_114
  | 40, _ => exact w8_116
  | 41, _ => exact w8_118
  | 42, _ => exact w8_120
  | 43, _ => exact w8_122
  | 44, _ => exact w8_124
  | 45, _ => exact w8_126
  | 46, _ => exact w8_128
  | 47, _ => exact w8_130
  | 48, _ => exact w8_132
  | 49, _ => exact w8_134
  | 50, _ => exact w8_136
  | 51, _ => exact w8_138
  | 52, _ => exact w8_140
  | 53, _ => exact w8_142
  | 54, _ => exact w8_144
  | 55, _ => exact w8_146
  | 56, _ => exact w8_148
  | 57, _ => exact w8_150
  | 58, _ => exact w8_152
  | 59, _ => exact w8_154
  | 60, _ => exact w8_156
  | 61, _ => exact w8_158
  | 62, _ => exact w8_160
  | 63, _ => exact w8_162
  | 64, _ => exact w8_164
  | 65, _ => exact w8_166
  | 66, _ => exact w8_168
  | 67, _ => exact w8_170
  | 68, _ => exact w8_172
  | k + 69, h => exact absurd h (by omega)

theorem zin {ci : Nat} {q : vw_C} (h : zcl[ci]? = some q) : ∀ w ∈ u_ws q.1 q.2.1 q.2.2, w ∈ lwg := by
  match ci, h with
  | 0, h => obtain rfl := Option.some.inj h; exact zin0
  | 1, h => obtain rfl := Option.some.inj h; exact zin1
  | 2, h => obtain rfl := Option.some.inj h; exact zin2
  | 3, h => obtain rfl := Option.some.inj h; exact zin3
  | 4, h => obtain rfl := Option.some.inj h; exact zin4
  | 5, h => obtain rfl := Option.some.inj h; exact zin5
  | 6, h => obtain rfl := Option.some.inj h; exact zin6
  | 7, h => obtain rfl := Option.some.inj h; exact zin7
  | 8, h => obtain rfl := Option.some.inj h; exact zin8
  | 9, h => obtain rfl := Option.some.inj h; exact zin9
  | 10, h => obtain rfl := Option.some.inj h; exact zin10
  | 11, h => obtain rfl := Option.some.inj h; exact zin11
  | 12, h => obtain rfl := Option.some.inj h; exact zin12
  | _ + 13, h => simp [zcl] at h
def ztyof (ci : Nat) : Nat → FieldType := match ci with
  | 0 => tyX0 | 1 => tyX1 | 2 => tyX2 | 3 => tyX3 | 4 => tyX4 | 5 => tyX5 | 6 => tyX6 | 7 => tyX7 | 8 => tyX8 | 9 => tyX9 | 10 => tyX10 | 11 => tyX11 | _ => tyX12
theorem zty {ci : Nat} {q : vw_C} (h : zcl[ci]? = some q) : ∀ k, k < q.2.2 → parseFieldDescriptor (q.2.1 k).2.2.1 = some (ztyof ci k) := by
  match ci, h with
  | 0, h => obtain rfl := Option.some.inj h; exact tyX0_ok
  | 1, h => obtain rfl := Option.some.inj h; exact tyX1_ok
  | 2, h => obtain rfl := Option.some.inj h; exact tyX2_ok
  | 3, h => obtain rfl := Option.some.inj h; exact tyX3_ok
  | 4, h => obtain rfl := Option.some.inj h; exact tyX4_ok
  | 5, h => obtain rfl := Option.some.inj h; exact tyX5_ok
  | 6, h => obtain rfl := Option.some.inj h; exact tyX6_ok
  | 7, h => obtain rfl := Option.some.inj h; exact tyX7_ok
  | 8, h => obtain rfl := Option.some.inj h; exact tyX8_ok
  | 9, h => obtain rfl := Option.some.inj h; exact tyX9_ok
  | 10, h => obtain rfl := Option.some.inj h; exact tyX10_ok
  | 11, h => obtain rfl := Option.some.inj h; exact tyX11_ok
  | 12, h => obtain rfl := Option.some.inj h; exact tyX12_ok
  | _ + 13, h => simp [zcl] at h
theorem znm {ci : Nat} {q : vw_C} (h : zcl[ci]? = some q) : ∀ a, a < q.2.2 → ∀ b, b < q.2.2 → a ≠ b → (q.2.1 a).2.1 ≠ (q.2.1 b).2.1 := by
  match ci, h with
  | 0, h => obtain rfl := Option.some.inj h; exact nmX0
  | 1, h => obtain rfl := Option.some.inj h; exact nmX1
  | 2, h => obtain rfl := Option.some.inj h; exact nmX2
  | 3, h => obtain rfl := Option.some.inj h; exact nmX3
  | 4, h => obtain rfl := Option.some.inj h; exact nmX4
  | 5, h => obtain rfl := Option.some.inj h; exact nmX5
  | 6, h => obtain rfl := Option.some.inj h; exact nmX6
  | 7, h => obtain rfl := Option.some.inj h; exact nmX7
  | 8, h => obtain rfl := Option.some.inj h; exact nmX8
  | 9, h => obtain rfl := Option.some.inj h; exact nmX9
  | 10, h => obtain rfl := Option.some.inj h; exact nmX10
  | 11, h => obtain rfl := Option.some.inj h; exact nmX11
  | 12, h => obtain rfl := Option.some.inj h; exact nmX12
  | _ + 13, h => simp [zcl] at h
theorem zcellI {cA : ClassId} {n : Nat} {f g : Nat → Int32} (h : ∀ j, j < n → f j = g j) : vp_cell cA (n, .inl f) = vp_cell cA (n, .inl g) := by
  have e : (fun (j : Fin n) => Value.int (f j.val)) = (fun (j : Fin n) => Value.int (g j.val)) := funext fun j => by rw [h j.val j.isLt]
  simp only [vp_cell, arrV, e]
theorem zcellJ {cA : ClassId} {n : Nat} {f g : Nat → Int64} (h : ∀ j, j < n → f j = g j) : vp_cell cA (n, .inr (.inl f)) = vp_cell cA (n, .inr (.inl g)) := by
  have e : (fun (j : Fin n) => Value.long (f j.val)) = (fun (j : Fin n) => Value.long (g j.val)) := funext fun j => by rw [h j.val j.isLt]
  simp only [vp_cell, arrV, e]
theorem zatI {G : va_G} {H : Heap} {a : Nat} {cA : ClassId} {n : Nat} {f g : Nat → Int32} (h : ∀ j, j < n → f j = g j) (h9 : va_at G zcl (a, .inl (cA, n, .inl f)) H) : va_at G zcl (a, .inl (cA, n, .inl g)) H := Eq.trans (show H[a]? = some (vp_cell cA (n, .inl f)) from h9) (congrArg some (zcellI h))
theorem zatJ {G : va_G} {H : Heap} {a : Nat} {cA : ClassId} {n : Nat} {f g : Nat → Int64} (h : ∀ j, j < n → f j = g j) (h9 : va_at G zcl (a, .inl (cA, n, .inr (.inl f))) H) : va_at G zcl (a, .inl (cA, n, .inr (.inl g))) H := Eq.trans (show H[a]? = some (vp_cell cA (n, .inr (.inl f))) from h9) (congrArg some (zcellJ h))
theorem zset_at {ws : va_W} {q0 k : Nat} {x y : Nat × va_E} (h : (ws.set q0 x)[k]? = some y) : (k = q0 ∧ y = x) ∨ (k ≠ q0 ∧ ws[k]? = some y) := by
  by_cases e : k = q0
  · subst e
    rw [List.getElem?_set] at h
    simp only [if_true] at h
    split at h
    · exact Or.inl ⟨rfl, (Option.some.inj h).symm⟩
    · cases h
  · rw [List.getElem?_set_ne (Ne.symm e)] at h
    exact Or.inr ⟨e, h⟩
theorem zset_len {ws : va_W} {q0 k : Nat} {x x2 y : Nat × va_E} (h : (ws.set q0 x2)[k]? = some y) : ∃ z, (ws.set q0 x)[k]? = some z ∧ ((k = q0 ∧ y = x2 ∧ z = x) ∨ (k ≠ q0 ∧ z = y)) := by
  have hl : k < ws.length := by
    have := (List.getElem?_eq_some_iff.mp h).1
    rwa [List.length_set] at this
  rcases zset_at h with ⟨rfl, rfl⟩ | ⟨h1, h2⟩
  · exact ⟨x, by rw [List.getElem?_set_self hl], Or.inl ⟨rfl, rfl, rfl⟩⟩
  · exact ⟨y, by rw [List.getElem?_set_ne (Ne.symm h1)]; exact h2, Or.inr ⟨h1, rfl⟩⟩
theorem zcong {G : va_G} {A : Nat → Prop} {H0 H : Heap} {locs : List Loc} {ws : va_W} {q0 a : Nat} {x x2 : va_E} (hx : va_at G zcl (a, x) H → va_at G zcl (a, x2) H) (h : zT G A H0 H locs (ws.set q0 (a, x))) : zT G A H0 H locs (ws.set q0 (a, x2)) := by
  refine ⟨fun k q hk => ?_, ⟨fun i j p q hi hj hpq => ?_, fun k q hk => ?_⟩, h.2.2⟩
  · obtain ⟨z, h1, ⟨-, rfl, rfl⟩ | ⟨-, rfl⟩⟩ := zset_len (x := (a, x)) hk
    · exact hx (h.1 k _ h1)
    · exact h.1 k _ h1
  · obtain ⟨z, h1, hz⟩ := zset_len (x := (a, x)) hi
    obtain ⟨z2, h2, hz2⟩ := zset_len (x := (a, x)) hj
    have e1 : z.1 = p.1 := by rcases hz with ⟨-, rfl, rfl⟩ | ⟨-, rfl⟩ <;> rfl
    have e2 : z2.1 = q.1 := by rcases hz2 with ⟨-, rfl, rfl⟩ | ⟨-, rfl⟩ <;> rfl
    exact h.2.1.1 i j z z2 h1 h2 (by rw [e1, e2]; exact hpq)
  · obtain ⟨z, h1, hz⟩ := zset_len (x := (a, x)) hk
    have e1 : z.1 = q.1 := by rcases hz with ⟨-, rfl, rfl⟩ | ⟨-, rfl⟩ <;> rfl
    rw [← e1]
    exact h.2.1.2 k z h1
section ZH
variable {p : Program} {l : Launch} {e : Env} {R : Room} {s : State} {m : MethodId} {args : Array Value} {below : List Frame} {meth : Method} {c : Code} {H H0 : Heap} {locs : List Loc} {cells slots : Nat} {Q : State → Prop}
variable {cc : ByteArray} {pc : Nat} {ls : Array Slot} {rest : List Value} {G : va_G} {cy : Nat → ClassId} {A : Nat → Prop} {a : Nat} {ws : va_W} {own : String}
theorem z_get (hx : p.tables.exec = Jvm.exec) (hb : c.code = cc) (hts : ∀ w ∈ lwg, w.before args s = true) (hown : s.vm.findClass own = some m.cls) (hK : zK G cy s) (hT : zT G A H0 H locs ws) (q0 ci k : Nat) {fs : List Value} {C nm ds : String} {T : u_T} {N index : Nat} {fin : Bool} {v : Value} (he : ws[q0]? = some (a, .inr (ci, fs))) (hc : zcl[ci]? = some (C, T, N)) (hk : k < N) (hf : T k = (C, nm, ds, fin)) (hl : Cond.fieldLink own index C nm ds ∈ lwg) (hv : fs[k]? = some v) (hdg : decode cc pc = .ok (.getfield index, 3))
    (kk : W p l e R s m args below meth c H locs cells slots Q (F0 m (pc + 3) ls (v :: rest))) : W p l e R s m args below meth c H locs cells slots Q (F0 m pc ls (.ref a :: rest)) :=
  va_get (D := G) (own := own) (ref := C) (C := C) (T := T) (N := N) hx hb hts (zin hc) hown hK.1 hT.1 q0 he hc k hk (by rw [hf]; exact hts _ hl) (fun x h => by rw [hf] at h ⊢; exact h) hv hdg kk
theorem z_put (hx : p.tables.exec = Jvm.exec) (hb : c.code = cc) (hts : ∀ w ∈ lwg, w.before args s = true) (hown : s.vm.findClass own = some m.cls) (hK : zK G cy s) (hT : zT G A H0 H locs ws) (q0 ci k : Nat) {fs : List Value} {C nm ds : String} {T : u_T} {N index : Nat} {v : Value} {ty : FieldType} (hd : parseFieldDescriptor ds = some ty) (hn : narrow ty v = v) (hfit : fits ty v = true) (he : ws[q0]? = some (a, .inr (ci, fs))) (hc : zcl[ci]? = some (C, T, N)) (hk : k < N) (hf : T k = (C, nm, ds, false)) (hl : Cond.fieldLink own index C nm ds ∈ lwg) (hlen : k < fs.length) (hdg : decode cc pc = .ok (.putfield index, 3)) (ws2 : va_W) (hw : ws.set q0 (a, .inr (ci, fs.set k v)) = ws2)
    (kk : ∀ (H1 : Heap) (locs1 : List Loc), zT G A H0 H1 locs1 ws2 → W p l e R s m args below meth c H1 locs1 cells slots Q (F0 m (pc + 3) ls rest)) : W p l e R s m args below meth c H locs cells slots Q (F0 m pc ls (v :: .ref a :: rest)) := by
  subst hw
  exact va_put (D := G) (own := own) (ref := C) (C := C) (T := T) (N := N) (ty := ty) hx hb hts (zin hc) (ztyof ci) (zty hc) (znm hc) hown hK.1 hT.1 hT.2.1 hT.2.2 q0 he hc k hk (by rw [hf]; exact hts _ hl) (fun x h => by rw [hf] at h ⊢; exact h) (by rw [hf]) (by rw [hf]; exact hd) hn hfit hlen hdg (fun H1 locs1 hP hD hS => kk H1 locs1 ⟨hP, hD, hS⟩)
theorem z_putF (hx : p.tables.exec = Jvm.exec) (hb : c.code = cc) (hts : ∀ w ∈ lwg, w.before args s = true) (hown : s.vm.findClass own = some m.cls) (hin : meth.name = "<init>") (hK : zK G cy s) (hT : zT G A H0 H locs ws) (q0 ci k : Nat) {fs : List Value} {nm ds : String} {T : u_T} {N index : Nat} {v : Value} {ty : FieldType} (hd : parseFieldDescriptor ds = some ty) (hn : narrow ty v = v) (hfit : fits ty v = true) (he : ws[q0]? = some (a, .inr (ci, fs))) (hc : zcl[ci]? = some (own, T, N)) (hk : k < N) (hf : T k = (own, nm, ds, true)) (hl : Cond.fieldLink own index own nm ds ∈ lwg) (hlen : k < fs.length) (hdg : decode cc pc = .ok (.putfield index, 3)) (ws2 : va_W) (hw : ws.set q0 (a, .inr (ci, fs.set k v)) = ws2)
    (kk : ∀ (H1 : Heap) (locs1 : List Loc), zT G A H0 H1 locs1 ws2 → W p l e R s m args below meth c H1 locs1 cells slots Q (F0 m (pc + 3) ls rest)) : W p l e R s m args below meth c H locs cells slots Q (F0 m pc ls (v :: .ref a :: rest)) := by
  subst hw
  exact va_putF (D := G) (own := own) (ref := own) (C := own) (T := T) (N := N) (ty := ty) hx hb hts (zin hc) (ztyof ci) (zty hc) (znm hc) hown hK.1 hT.1 hT.2.1 hT.2.2 q0 he hc k hk (by rw [hf]; exact hts _ hl) (fun x h => by rw [hf] at h ⊢; exact h) (by rw [hf]) hin (by rw [hf]) (by rw [hf]; exact hd) hn hfit hlen hdg (fun H1 locs1 hP hD hS => kk H1 locs1 ⟨hP, hD, hS⟩)
theorem z_iald (hx : p.tables.exec = Jvm.exec) (hb : c.code = cc) (hK : zK G cy s) (hT : zT G A H0 H locs ws) (q0 k : Nat) {n : Nat} {f : Nat → Int32} {i v : Int32} (ha : ws[q0]? = some (a, .inl (cy 0, n, .inl f))) (hi : i = nI k) (hk : k < n) (hn : n < 2147483648) (hv : f k = v) (hdg : decode cc pc = .ok (.iaload, 1))
    (kk : W p l e R s m args below meth c H locs cells slots Q (F0 m (pc + 1) ls (.int v :: rest))) : W p l e R s m args below meth c H locs cells slots Q (F0 m pc ls (.int i :: .ref a :: rest)) := by
  subst hi
  refine va_iald hx hb hK.1 hT.1 q0 0 ha rfl (vp_in_nI hk hn) hdg ?_
  rw [nI_clamp (Nat.lt_trans hk hn), hv]
  exact kk
theorem z_zald (hx : p.tables.exec = Jvm.exec) (hb : c.code = cc) (hK : zK G cy s) (hT : zT G A H0 H locs ws) (q0 k : Nat) {n : Nat} {f : Nat → Int32} {i v : Int32} (ha : ws[q0]? = some (a, .inl (cy 2, n, .inl f))) (hi : i = nI k) (hk : k < n) (hn : n < 2147483648) (hv : f k = v) (hdg : decode cc pc = .ok (.baload, 1))
    (kk : W p l e R s m args below meth c H locs cells slots Q (F0 m (pc + 1) ls (.int v :: rest))) : W p l e R s m args below meth c H locs cells slots Q (F0 m pc ls (.int i :: .ref a :: rest)) := by
  subst hi
  refine va_zald hx hb hK.1 hT.1 q0 2 ha rfl (vp_in_nI hk hn) hdg ?_
  rw [nI_clamp (Nat.lt_trans hk hn), hv]
  exact kk
theorem z_lald (hx : p.tables.exec = Jvm.exec) (hb : c.code = cc) (hK : zK G cy s) (hT : zT G A H0 H locs ws) (q0 k : Nat) {n : Nat} {f : Nat → Int64} {i : Int32} {v : Int64} (ha : ws[q0]? = some (a, .inl (cy 1, n, .inr (.inl f)))) (hi : i = nI k) (hk : k < n) (hn : n < 2147483648) (hv : f k = v) (hdg : decode cc pc = .ok (.laload, 1))
    (kk : W p l e R s m args below meth c H locs cells slots Q (F0 m (pc + 1) ls (.long v :: rest))) : W p l e R s m args below meth c H locs cells slots Q (F0 m pc ls (.int i :: .ref a :: rest)) := by
  subst hi
  refine va_lald hx hb hK.1 hT.1 q0 1 ha rfl (vp_in_nI hk hn) hdg ?_
  rw [nI_clamp (Nat.lt_trans hk hn), hv]
  exact kk
/-- an element of a row of references; t0: 3 Machine[], 4 int[][], 5 long[][] -/
theorem z_aald (hx : p.tables.exec = Jvm.exec) (hb : c.code = cc) (hK : zK G cy s) (hT : zT G A H0 H locs ws) (q0 t0 : Nat) {n : Nat} {f : Nat → Option Nat} {i : Int32} {cA : ClassId} {ty : FieldType} {v : Nat} (ha : ws[q0]? = some (a, .inl (cA, n, .inr (.inr (.inr (.inr f)))))) (ht : (ztys cy)[t0]? = some (cA, ty)) (hty : ty.isReference = true) (hin : vp_in i n) (hv : f i.toNatClampNeg = some v) (hdg : decode cc pc = .ok (.aaload, 1))
    (kk : W p l e R s m args below meth c H locs cells slots Q (F0 m (pc + 1) ls (.ref v :: rest))) : W p l e R s m args below meth c H locs cells slots Q (F0 m pc ls (.int i :: .ref a :: rest)) := by
  have hlt : i.toNatClampNeg < n := Nat.not_le.mp fun q => hin (Or.inr q)
  exact W.aald (v := .ref v) (ty := ty) hx hb (hT.1 q0 _ ha) ((hK.1.2 t0 _ ht).1 n (fun j => va_rf (f j))) hty (fun q => by cases q) (by show ¬ (i < 0 ∨ (arrV _ _ _).slots.size ≤ _); rw [arrV_size]; exact hin) (by show (arrV _ _ _).slots[_]? = _; rw [arrV_read _ _ hlt, hv]; rfl) rfl rfl hdg kk
theorem z_iast (hx : p.tables.exec = Jvm.exec) (hb : c.code = cc) (hK : zK G cy s) (hT : zT G A H0 H locs ws) (q0 k : Nat) {n : Nat} {f : Nat → Int32} {i x : Int32} (ha : ws[q0]? = some (a, .inl (cy 0, n, .inl f))) (hi : i = nI k) (hk : k < n) (hn : n < 2147483648) (hdg : decode cc pc = .ok (.iastore, 1)) (f2 : Nat → Int32) (hf : ∀ j, j < n → upd f k x j = f2 j) (ws2 : va_W) (hw : ws.set q0 (a, .inl (cy 0, n, .inl f2)) = ws2)
    (kk : ∀ (H1 : Heap) (locs1 : List Loc), zT G A H0 H1 locs1 ws2 → W p l e R s m args below meth c H1 locs1 cells slots Q (F0 m (pc + 1) ls rest)) : W p l e R s m args below meth c H locs cells slots Q (F0 m pc ls (.int x :: .int i :: .ref a :: rest)) := by
  subst hi hw
  have hcl := nI_clamp (Nat.lt_trans hk hn)
  refine va_iast hx hb hK.1 hT.1 hT.2.1 hT.2.2 q0 0 ha rfl (vp_in_nI hk hn) hdg (fun H1 locs1 hP hD hS => kk H1 locs1 ?_)
  rw [hcl] at hP hD
  exact zcong (zatI hf) ⟨hP, hD, hS⟩
theorem z_zast (hx : p.tables.exec = Jvm.exec) (hb : c.code = cc) (hK : zK G cy s) (hT : zT G A H0 H locs ws) (q0 k : Nat) {n : Nat} {f : Nat → Int32} {i x : Int32} (ha : ws[q0]? = some (a, .inl (cy 2, n, .inl f))) (hi : i = nI k) (hk : k < n) (hn : n < 2147483648) (hnar : vp_nar .boolean x = x) (hdg : decode cc pc = .ok (.bastore, 1)) (f2 : Nat → Int32) (hf : ∀ j, j < n → upd f k x j = f2 j) (ws2 : va_W) (hw : ws.set q0 (a, .inl (cy 2, n, .inl f2)) = ws2)
    (kk : ∀ (H1 : Heap) (locs1 : List Loc), zT G A H0 H1 locs1 ws2 → W p l e R s m args below meth c H1 locs1 cells slots Q (F0 m (pc + 1) ls rest)) : W p l e R s m args below meth c H locs cells slots Q (F0 m pc ls (.int x :: .int i :: .ref a :: rest)) := by
  subst hi hw
  have hcl := nI_clamp (Nat.lt_trans hk hn)
  refine va_zast hx hb hK.1 hT.1 hT.2.1 hT.2.2 q0 2 ha rfl (vp_in_nI hk hn) hdg (fun H1 locs1 hP hD hS => kk H1 locs1 ?_)
  rw [hcl, hnar] at hP hD
  exact zcong (zatI hf) ⟨hP, hD, hS⟩
theorem z_last (hx : p.tables.exec = Jvm.exec) (hb : c.code = cc) (hK : zK G cy s) (hT : zT G A H0 H locs ws) (q0 k : Nat) {n : Nat} {f : Nat → Int64} {i : Int32} {x : Int64} (ha : ws[q0]? = some (a, .inl (cy 1, n, .inr (.inl f)))) (hi : i = nI k) (hk : k < n) (hn : n < 2147483648) (hdg : decode cc pc = .ok (.lastore, 1)) (f2 : Nat → Int64) (hf : ∀ j, j < n → vp_updL f k x j = f2 j) (ws2 : va_W) (hw : ws.set q0 (a, .inl (cy 1, n, .inr (.inl f2))) = ws2)
    (kk : ∀ (H1 : Heap) (locs1 : List Loc), zT G A H0 H1 locs1 ws2 → W p l e R s m args below meth c H1 locs1 cells slots Q (F0 m (pc + 1) ls rest)) : W p l e R s m args below meth c H locs cells slots Q (F0 m pc ls (.long x :: .int i :: .ref a :: rest)) := by
  subst hi hw
  have hcl := nI_clamp (Nat.lt_trans hk hn)
  refine va_last hx hb hK.1 hT.1 hT.2.1 hT.2.2 q0 1 ha rfl (vp_in_nI hk hn) hdg (fun H1 locs1 hP hD hS => kk H1 locs1 ?_)
  rw [hcl] at hP hD
  exact zcong (zatJ hf) ⟨hP, hD, hS⟩
theorem z_alen (hx : p.tables.exec = Jvm.exec) (hb : c.code = cc) (hK : zK G cy s) (hT : zT G A H0 H locs ws) (q0 t0 : Nat) {cA : ClassId} {x : vp_A} {ty : FieldType} {v : Int32} (ha : ws[q0]? = some (a, .inl (cA, x))) (ht : (ztys cy)[t0]? = some (cA, ty)) (hv : Int32.ofNat x.1 = v) (hdg : decode cc pc = .ok (.arraylength, 1))
    (kk : W p l e R s m args below meth c H locs cells slots Q (F0 m (pc + 1) ls (.int v :: rest))) : W p l e R s m args below meth c H locs cells slots Q (F0 m pc ls (.ref a :: rest)) :=
  va_alen hx hb hK.1 hT.1 q0 t0 ha ht hv hdg kk
end ZH
/-! rows with a value that is known, a branch whose way is known, making -/
def kc (v : Int32) : Nat → Int32 := fun _ => v
def kl (v : Int64) : Nat → Int64 := fun _ => v
theorem z_upds {f : Nat → Int32} {k : Nat} {x : Int32} (h : f k = x) (j : Nat) : upd f k x j = f j := by
  unfold upd
  split
  · next e => rw [e, h]
  · rfl
theorem z_updLs {f : Nat → Int64} {k : Nat} {x : Int64} (h : f k = x) (j : Nat) : vp_updL f k x j = f j := by
  unfold vp_updL
  split
  · next e => rw [e, h]
  · rfl
theorem z_updu {f : Nat → Int32} {k : Nat} {x y : Int32} (j : Nat) : upd (upd f k x) k y j = upd f k y j := by
  unfold upd
  split <;> simp_all
theorem z_updLu {f : Nat → Int64} {k : Nat} {x y : Int64} (j : Nat) : vp_updL (vp_updL f k x) k y j = vp_updL f k y j := by
  unfold vp_updL
  split <;> simp_all
section ZO
variable {p : Program} {l : Launch} {e : Env} {R : Room} {s : State} {m : MethodId} {args : Array Value} {below : List Frame} {meth : Method} {c : Code} {H H0 : Heap} {locs : List Loc} {cells slots : Nat} {Q : State → Prop}
variable {cc : ByteArray} {pc nL : Nat} {ls : Array Slot} {rest : List Value} {G : va_G} {cy : Nat → ClassId} {A : Nat → Prop} {a : Nat} {ws : va_W} {own : String}
theorem z_iadd {x y v : Int32} (hx : p.tables.exec = Jvm.exec) (hb : c.code = cc) (hdg : decode cc pc = .ok (.iadd, 1)) (hv : x + y = v) (k : W p l e R s m args below meth c H locs cells slots Q (F0 m (pc + 1) ls (.int v :: rest))) : W p l e R s m args below meth c H locs cells slots Q (F0 m pc ls (.int y :: .int x :: rest)) := by
  subst hv
  exact lv_iadd hx hb hdg k
theorem z_isub {x y v : Int32} (hx : p.tables.exec = Jvm.exec) (hb : c.code = cc) (hdg : decode cc pc = .ok (.isub, 1)) (hv : x - y = v) (k : W p l e R s m args below meth c H locs cells slots Q (F0 m (pc + 1) ls (.int v :: rest))) : W p l e R s m args below meth c H locs cells slots Q (F0 m pc ls (.int y :: .int x :: rest)) := by
  subst hv
  exact lv_isub hx hb hdg k
theorem z_imul {x y v : Int32} (hx : p.tables.exec = Jvm.exec) (hb : c.code = cc) (hdg : decode cc pc = .ok (.imul, 1)) (hv : x * y = v) (k : W p l e R s m args below meth c H locs cells slots Q (F0 m (pc + 1) ls (.int v :: rest))) : W p l e R s m args below meth c H locs cells slots Q (F0 m pc ls (.int y :: .int x :: rest)) := by
  subst hv
  exact lv_imul hx hb hdg k
theorem z_iand {x y v : Int32} (hx : p.tables.exec = Jvm.exec) (hb : c.code = cc) (hdg : decode cc pc = .ok (.iand, 1)) (hv : x &&& y = v) (k : W p l e R s m args below meth c H locs cells slots Q (F0 m (pc + 1) ls (.int v :: rest))) : W p l e R s m args below meth c H locs cells slots Q (F0 m pc ls (.int y :: .int x :: rest)) := by
  subst hv
  exact lv_iand hx hb hdg k
theorem z_ior {x y v : Int32} (hx : p.tables.exec = Jvm.exec) (hb : c.code = cc) (hdg : decode cc pc = .ok (.ior, 1)) (hv : x ||| y = v) (k : W p l e R s m args below meth c H locs cells slots Q (F0 m (pc + 1) ls (.int v :: rest))) : W p l e R s m args below meth c H locs cells slots Q (F0 m pc ls (.int y :: .int x :: rest)) := by
  subst hv
  exact lv_ior hx hb hdg k
theorem z_ixor {x y v : Int32} (hx : p.tables.exec = Jvm.exec) (hb : c.code = cc) (hdg : decode cc pc = .ok (.ixor, 1)) (hv : x ^^^ y = v) (k : W p l e R s m args below meth c H locs cells slots Q (F0 m (pc + 1) ls (.int v :: rest))) : W p l e R s m args below meth c H locs cells slots Q (F0 m pc ls (.int y :: .int x :: rest)) := by
  subst hv
  exact lv_ixor hx hb hdg k
theorem z_ishl {x y v : Int32} (hx : p.tables.exec = Jvm.exec) (hb : c.code = cc) (hdg : decode cc pc = .ok (.ishl, 1)) (hv : x <<< (y &&& 31) = v) (k : W p l e R s m args below meth c H locs cells slots Q (F0 m (pc + 1) ls (.int v :: rest))) : W p l e R s m args below meth c H locs cells slots Q (F0 m pc ls (.int y :: .int x :: rest)) := by
  subst hv
  exact lv_ishl hx hb hdg k
theorem z_ishr {x y v : Int32} (hx : p.tables.exec = Jvm.exec) (hb : c.code = cc) (hdg : decode cc pc = .ok (.ishr, 1)) (hv : x >>> (y &&& 31) = v) (k : W p l e R s m args below meth c H locs cells slots Q (F0 m (pc + 1) ls (.int v :: rest))) : W p l e R s m args below meth c H locs cells slots Q (F0 m pc ls (.int y :: .int x :: rest)) := by
  subst hv
  exact lv_ishr hx hb hdg k
theorem z_iushr {x y v : Int32} (hx : p.tables.exec = Jvm.exec) (hb : c.code = cc) (hdg : decode cc pc = .ok (.iushr, 1)) (hv : (x.toUInt32 >>> (y.toUInt32 &&& Int32.toUInt32 31)).toInt32 = v) (k : W p l e R s m args below meth c H locs cells slots Q (F0 m (pc + 1) ls (.int v :: rest))) : W p l e R s m args below meth c H locs cells slots Q (F0 m pc ls (.int y :: .int x :: rest)) := lv_iushr hx hb hdg hv k
theorem z_idiv {x y v : Int32} (hx : p.tables.exec = Jvm.exec) (hb : c.code = cc) (hdg : decode cc pc = .ok (.idiv, 1)) (hne : ¬ y = 0) (hv : x / y = v) (k : W p l e R s m args below meth c H locs cells slots Q (F0 m (pc + 1) ls (.int v :: rest))) : W p l e R s m args below meth c H locs cells slots Q (F0 m pc ls (.int y :: .int x :: rest)) := by
  subst hv
  exact lv_idiv hx hb hdg hne k
theorem z_irem {x y v : Int32} (hx : p.tables.exec = Jvm.exec) (hb : c.code = cc) (hdg : decode cc pc = .ok (.irem, 1)) (hne : ¬ y = 0) (hv : x - x / y * y = v) (k : W p l e R s m args below meth c H locs cells slots Q (F0 m (pc + 1) ls (.int v :: rest))) : W p l e R s m args below meth c H locs cells slots Q (F0 m pc ls (.int y :: .int x :: rest)) := by
  subst hv
  exact lv_irem hx hb hdg hne k
theorem z_ladd {x y v : Int64} (hx : p.tables.exec = Jvm.exec) (hb : c.code = cc) (hdg : decode cc pc = .ok (.ladd, 1)) (hv : x + y = v) (k : W p l e R s m args below meth c H locs cells slots Q (F0 m (pc + 1) ls (.long v :: rest))) : W p l e R s m args below meth c H locs cells slots Q (F0 m pc ls (.long y :: .long x :: rest)) := by
  subst hv
  exact lv_ladd hx hb hdg k
theorem z_lsub {x y v : Int64} (hx : p.tables.exec = Jvm.exec) (hb : c.code = cc) (hdg : decode cc pc = .ok (.lsub, 1)) (hv : x - y = v) (k : W p l e R s m args below meth c H locs cells slots Q (F0 m (pc + 1) ls (.long v :: rest))) : W p l e R s m args below meth c H locs cells slots Q (F0 m pc ls (.long y :: .long x :: rest)) := by
  subst hv
  exact lv_lsub hx hb hdg k
theorem z_lmul {x y v : Int64} (hx : p.tables.exec = Jvm.exec) (hb : c.code = cc) (hdg : decode cc pc = .ok (.lmul, 1)) (hv : x * y = v) (k : W p l e R s m args below meth c H locs cells slots Q (F0 m (pc + 1) ls (.long v :: rest))) : W p l e R s m args below meth c H locs cells slots Q (F0 m pc ls (.long y :: .long x :: rest)) := by
  subst hv
  exact lv_lmul hx hb hdg k
theorem z_ldiv {x y v : Int64} (hx : p.tables.exec = Jvm.exec) (hb : c.code = cc) (hdg : decode cc pc = .ok (.ldiv, 1)) (hne : ¬ y = 0) (hv : x / y = v) (k : W p l e R s m args below meth c H locs cells slots Q (F0 m (pc + 1) ls (.long v :: rest))) : W p l e R s m args below meth c H locs cells slots Q (F0 m pc ls (.long y :: .long x :: rest)) := by
  subst hv
  exact lv_ldiv hx hb hdg hne k
theorem z_lrem {x y v : Int64} (hx : p.tables.exec = Jvm.exec) (hb : c.code = cc) (hdg : decode cc pc = .ok (.lrem, 1)) (hne : ¬ y = 0) (hv : x - x / y * y = v) (k : W p l e R s m args below meth c H locs cells slots Q (F0 m (pc + 1) ls (.long v :: rest))) : W p l e R s m args below meth c H locs cells slots Q (F0 m pc ls (.long y :: .long x :: rest)) := by
  subst hv
  exact lv_lrem hx hb hdg hne k
theorem z_ineg {x v : Int32} (hx : p.tables.exec = Jvm.exec) (hb : c.code = cc) (hdg : decode cc pc = .ok (.ineg, 1)) (hv : -x = v) (k : W p l e R s m args below meth c H locs cells slots Q (F0 m (pc + 1) ls (.int v :: rest))) : W p l e R s m args below meth c H locs cells slots Q (F0 m pc ls (.int x :: rest)) := by
  subst hv
  exact lv_ineg hx hb hdg k
theorem z_lcmp {x y : Int64} {v : Int32} (hx : p.tables.exec = Jvm.exec) (hb : c.code = cc) (hdg : decode cc pc = .ok (.lcmp, 1)) (hv : lg_cmp x y = v) (k : W p l e R s m args below meth c H locs cells slots Q (F0 m (pc + 1) ls (.int v :: rest))) : W p l e R s m args below meth c H locs cells slots Q (F0 m pc ls (.long y :: .long x :: rest)) := by
  subst hv
  exact W.lcmp hx hb hdg k
theorem zb_if_eq_t {x : Int32} {off : Int} {tgt : Nat} (hx : p.tables.exec = Jvm.exec) (hb : c.code = cc) (hdg : decode cc pc = .ok (.ifCond .eq off, 3)) (ht : (pc : Int) + off = (tgt : Int)) (hc : x = 0) (k : W p l e R s m args below meth c H locs cells slots Q (F0 m tgt ls rest)) : W p l e R s m args below meth c H locs cells slots Q (F0 m pc ls (.int x :: rest)) := lv_if_eq hx hb hdg ht (fun _ => k) (fun h => absurd hc h)
theorem zb_if_eq_f {x : Int32} {off : Int} (hx : p.tables.exec = Jvm.exec) (hb : c.code = cc) (hdg : decode cc pc = .ok (.ifCond .eq off, 3)) {tgt : Nat} (ht : (pc : Int) + off = (tgt : Int)) (hc : ¬ x = 0) (k : W p l e R s m args below meth c H locs cells slots Q (F0 m (pc + 3) ls rest)) : W p l e R s m args below meth c H locs cells slots Q (F0 m pc ls (.int x :: rest)) := lv_if_eq hx hb hdg ht (fun h => absurd h hc) (fun _ => k)
theorem zb_if_ne_t {x : Int32} {off : Int} {tgt : Nat} (hx : p.tables.exec = Jvm.exec) (hb : c.code = cc) (hdg : decode cc pc = .ok (.ifCond .ne off, 3)) (ht : (pc : Int) + off = (tgt : Int)) (hc : ¬ x = 0) (k : W p l e R s m args below meth c H locs cells slots Q (F0 m tgt ls rest)) : W p l e R s m args below meth c H locs cells slots Q (F0 m pc ls (.int x :: rest)) := lv_if_ne hx hb hdg ht (fun _ => k) (fun h => absurd h hc)
theorem zb_if_ne_f {x : Int32} {off : Int} (hx : p.tables.exec = Jvm.exec) (hb : c.code = cc) (hdg : decode cc pc = .ok (.ifCond .ne off, 3)) {tgt : Nat} (ht : (pc : Int) + off = (tgt : Int)) (hc : x = 0) (k : W p l e R s m args below meth c H locs cells slots Q (F0 m (pc + 3) ls rest)) : W p l e R s m args below meth c H locs cells slots Q (F0 m pc ls (.int x :: rest)) := lv_if_ne hx hb hdg ht (fun h => absurd hc h) (fun _ => k)
theorem zb_if_lt_t {x : Int32} {off : Int} {tgt : Nat} (hx : p.tables.exec = Jvm.exec) (hb : c.code = cc) (hdg : decode cc pc = .ok (.ifCond .lt off, 3)) (ht : (pc : Int) + off = (tgt : Int)) (hc : x < 0) (k : W p l e R s m args below meth c H locs cells slots Q (F0 m tgt ls rest)) : W p l e R s m args below meth c H locs cells slots Q (F0 m pc ls (.int x :: rest)) := lv_if_lt hx hb hdg ht (fun _ => k) (fun h => absurd hc h)
theorem zb_if_lt_f {x : Int32} {off : Int} (hx : p.tables.exec = Jvm.exec) (hb : c.code = cc) (hdg : decode cc pc = .ok (.ifCond .lt off, 3)) {tgt : Nat} (ht : (pc : Int) + off = (tgt : Int)) (hc : ¬ x < 0) (k : W p l e R s m args below meth c H locs cells slots Q (F0 m (pc + 3) ls rest)) : W p l e R s m args below meth c H locs cells slots Q (F0 m pc ls (.int x :: rest)) := lv_if_lt hx hb hdg ht (fun h => absurd h hc) (fun _ => k)
theorem zb_if_ge_t {x : Int32} {off : Int} {tgt : Nat} (hx : p.tables.exec = Jvm.exec) (hb : c.code = cc) (hdg : decode cc pc = .ok (.ifCond .ge off, 3)) (ht : (pc : Int) + off = (tgt : Int)) (hc : 0 ≤ x) (k : W p l e R s m args below meth c H locs cells slots Q (F0 m tgt ls rest)) : W p l e R s m args below meth c H locs cells slots Q (F0 m pc ls (.int x :: rest)) := lv_if_ge hx hb hdg ht (fun _ => k) (fun h => absurd hc h)
theorem zb_if_ge_f {x : Int32} {off : Int} (hx : p.tables.exec = Jvm.exec) (hb : c.code = cc) (hdg : decode cc pc = .ok (.ifCond .ge off, 3)) {tgt : Nat} (ht : (pc : Int) + off = (tgt : Int)) (hc : ¬ 0 ≤ x) (k : W p l e R s m args below meth c H locs cells slots Q (F0 m (pc + 3) ls rest)) : W p l e R s m args below meth c H locs cells slots Q (F0 m pc ls (.int x :: rest)) := lv_if_ge hx hb hdg ht (fun h => absurd h hc) (fun _ => k)
theorem zb_if_gt_t {x : Int32} {off : Int} {tgt : Nat} (hx : p.tables.exec = Jvm.exec) (hb : c.code = cc) (hdg : decode cc pc = .ok (.ifCond .gt off, 3)) (ht : (pc : Int) + off = (tgt : Int)) (hc : 0 < x) (k : W p l e R s m args below meth c H locs cells slots Q (F0 m tgt ls rest)) : W p l e R s m args below meth c H locs cells slots Q (F0 m pc ls (.int x :: rest)) := lv_if_gt hx hb hdg ht (fun _ => k) (fun h => absurd hc h)
theorem zb_if_gt_f {x : Int32} {off : Int} (hx : p.tables.exec = Jvm.exec) (hb : c.code = cc) (hdg : decode cc pc = .ok (.ifCond .gt off, 3)) {tgt : Nat} (ht : (pc : Int) + off = (tgt : Int)) (hc : ¬ 0 < x) (k : W p l e R s m args below meth c H locs cells slots Q (F0 m (pc + 3) ls rest)) : W p l e R s m args below meth c H locs cells slots Q (F0 m pc ls (.int x :: rest)) := lv_if_gt hx hb hdg ht (fun h => absurd h hc) (fun _ => k)
theorem zb_if_le_t {x : Int32} {off : Int} {tgt : Nat} (hx : p.tables.exec = Jvm.exec) (hb : c.code = cc) (hdg : decode cc pc = .ok (.ifCond .le off, 3)) (ht : (pc : Int) + off = (tgt : Int)) (hc : x ≤ 0) (k : W p l e R s m args below meth c H locs cells slots Q (F0 m tgt ls rest)) : W p l e R s m args below meth c H locs cells slots Q (F0 m pc ls (.int x :: rest)) := lv_if_le hx hb hdg ht (fun _ => k) (fun h => absurd hc h)
theorem zb_if_le_f {x : Int32} {off : Int} (hx : p.tables.exec = Jvm.exec) (hb : c.code = cc) (hdg : decode cc pc = .ok (.ifCond .le off, 3)) {tgt : Nat} (ht : (pc : Int) + off = (tgt : Int)) (hc : ¬ x ≤ 0) (k : W p l e R s m args below meth c H locs cells slots Q (F0 m (pc + 3) ls rest)) : W p l e R s m args below meth c H locs cells slots Q (F0 m pc ls (.int x :: rest)) := lv_if_le hx hb hdg ht (fun h => absurd h hc) (fun _ => k)
theorem zb_icmp_eq_t {x y : Int32} {off : Int} {tgt : Nat} (hx : p.tables.exec = Jvm.exec) (hb : c.code = cc) (hdg : decode cc pc = .ok (.if_icmp .eq off, 3)) (ht : (pc : Int) + off = (tgt : Int)) (hc : x = y) (k : W p l e R s m args below meth c H locs cells slots Q (F0 m tgt ls rest)) : W p l e R s m args below meth c H locs cells slots Q (F0 m pc ls (.int y :: .int x :: rest)) := lv_icmp_eq hx hb hdg ht (fun _ => k) (fun h => absurd hc h)
theorem zb_icmp_eq_f {x y : Int32} {off : Int} (hx : p.tables.exec = Jvm.exec) (hb : c.code = cc) (hdg : decode cc pc = .ok (.if_icmp .eq off, 3)) {tgt : Nat} (ht : (pc : Int) + off = (tgt : Int)) (hc : ¬ x = y) (k : W p l e R s m args below meth c H locs cells slots Q (F0 m (pc + 3) ls rest)) : W p l e R s m args below meth c H locs cells slots Q (F0 m pc ls (.int y :: .int x :: rest)) := lv_icmp_eq hx hb hdg ht (fun h => absurd h hc) (fun _ => k)
theorem zb_icmp_ne_t {x y : Int32} {off : Int} {tgt : Nat} (hx : p.tables.exec = Jvm.exec) (hb : c.code = cc) (hdg : decode cc pc = .ok (.if_icmp .ne off, 3)) (ht : (pc : Int) + off = (tgt : Int)) (hc : ¬ x = y) (k : W p l e R s m args below meth c H locs cells slots Q (F0 m tgt ls rest)) : W p l e R s m args below meth c H locs cells slots Q (F0 m pc ls (.int y :: .int x :: rest)) := lv_icmp_ne hx hb hdg ht (fun _ => k) (fun h => absurd h hc)
theorem zb_icmp_ne_f {x y : Int32} {off : Int} (hx : p.tables.exec = Jvm.exec) (hb : c.code = cc) (hdg : decode cc pc = .ok (.if_icmp .ne off, 3)) {tgt : Nat} (ht : (pc : Int) + off = (tgt : Int)) (hc : x = y) (k : W p l e R s m args below meth c H locs cells slots Q (F0 m (pc + 3) ls rest)) : W p l e R s m args below meth c H locs cells slots Q (F0 m pc ls (.int y :: .int x :: rest)) := lv_icmp_ne hx hb hdg ht (fun h => absurd hc h) (fun _ => k)
theorem zb_icmp_lt_t {x y : Int32} {off : Int} {tgt : Nat} (hx : p.tables.exec = Jvm.exec) (hb : c.code = cc) (hdg : decode cc pc = .ok (.if_icmp .lt off, 3)) (ht : (pc : Int) + off = (tgt : Int)) (hc : x < y) (k : W p l e R s m args below meth c H locs cells slots Q (F0 m tgt ls rest)) : W p l e R s m args below meth c H locs cells slots Q (F0 m pc ls (.int y :: .int x :: rest)) := lv_icmp_lt hx hb hdg ht (fun _ => k) (fun h => absurd hc h)
theorem zb_icmp_lt_f {x y : Int32} {off : Int} (hx : p.tables.exec = Jvm.exec) (hb : c.code = cc) (hdg : decode cc pc = .ok (.if_icmp .lt off, 3)) {tgt : Nat} (ht : (pc : Int) + off = (tgt : Int)) (hc : ¬ x < y) (k : W p l e R s m args below meth c H locs cells slots Q (F0 m (pc + 3) ls rest)) : W p l e R s m args below meth c H locs cells slots Q (F0 m pc ls (.int y :: .int x :: rest)) := lv_icmp_lt hx hb hdg ht (fun h => absurd h hc) (fun _ => k)
theorem zb_icmp_ge_t {x y : Int32} {off : Int} {tgt : Nat} (hx : p.tables.exec = Jvm.exec) (hb : c.code = cc) (hdg : decode cc pc = .ok (.if_icmp .ge off, 3)) (ht : (pc : Int) + off = (tgt : Int)) (hc : y ≤ x) (k : W p l e R s m args below meth c H locs cells slots Q (F0 m tgt ls rest)) : W p l e R s m args below meth c H locs cells slots Q (F0 m pc ls (.int y :: .int x :: rest)) := lv_icmp_ge hx hb hdg ht (fun _ => k) (fun h => absurd hc h)
theorem zb_icmp_ge_f {x y : Int32} {off : Int} (hx : p.tables.exec = Jvm.exec) (hb : c.code = cc) (hdg : decode cc pc = .ok (.if_icmp .ge off, 3)) {tgt : Nat} (ht : (pc : Int) + off = (tgt : Int)) (hc : ¬ y ≤ x) (k : W p l e R s m args below meth c H locs cells slots Q (F0 m (pc + 3) ls rest)) : W p l e R s m args below meth c H locs cells slots Q (F0 m pc ls (.int y :: .int x :: rest)) := lv_icmp_ge hx hb hdg ht (fun h => absurd h hc) (fun _ => k)
theorem zb_icmp_gt_t {x y : Int32} {off : Int} {tgt : Nat} (hx : p.tables.exec = Jvm.exec) (hb : c.code = cc) (hdg : decode cc pc = .ok (.if_icmp .gt off, 3)) (ht : (pc : Int) + off = (tgt : Int)) (hc : y < x) (k : W p l e R s m args below meth c H locs cells slots Q (F0 m tgt ls rest)) : W p l e R s m args below meth c H locs cells slots Q (F0 m pc ls (.int y :: .int x :: rest)) := lv_icmp_gt hx hb hdg ht (fun _ => k) (fun h => absurd hc h)
theorem zb_icmp_gt_f {x y : Int32} {off : Int} (hx : p.tables.exec = Jvm.exec) (hb : c.code = cc) (hdg : decode cc pc = .ok (.if_icmp .gt off, 3)) {tgt : Nat} (ht : (pc : Int) + off = (tgt : Int)) (hc : ¬ y < x) (k : W p l e R s m args below meth c H locs cells slots Q (F0 m (pc + 3) ls rest)) : W p l e R s m args below meth c H locs cells slots Q (F0 m pc ls (.int y :: .int x :: rest)) := lv_icmp_gt hx hb hdg ht (fun h => absurd h hc) (fun _ => k)
theorem zb_icmp_le_t {x y : Int32} {off : Int} {tgt : Nat} (hx : p.tables.exec = Jvm.exec) (hb : c.code = cc) (hdg : decode cc pc = .ok (.if_icmp .le off, 3)) (ht : (pc : Int) + off = (tgt : Int)) (hc : x ≤ y) (k : W p l e R s m args below meth c H locs cells slots Q (F0 m tgt ls rest)) : W p l e R s m args below meth c H locs cells slots Q (F0 m pc ls (.int y :: .int x :: rest)) := lv_icmp_le hx hb hdg ht (fun _ => k) (fun h => absurd hc h)
theorem zb_icmp_le_f {x y : Int32} {off : Int} (hx : p.tables.exec = Jvm.exec) (hb : c.code = cc) (hdg : decode cc pc = .ok (.if_icmp .le off, 3)) {tgt : Nat} (ht : (pc : Int) + off = (tgt : Int)) (hc : ¬ x ≤ y) (k : W p l e R s m args below meth c H locs cells slots Q (F0 m (pc + 3) ls rest)) : W p l e R s m args below meth c H locs cells slots Q (F0 m pc ls (.int y :: .int x :: rest)) := lv_icmp_le hx hb hdg ht (fun h => absurd h hc) (fun _ => k)
theorem z_aast (hx : p.tables.exec = Jvm.exec) (hb : c.code = cc) (hK : zK G cy s) (hT : zT G A H0 H locs ws) (q0 t0 qk ci : Nat) {cA : ClassId} {r : vw_C} {n v : Nat} {vs : List Value} {f : Nat → Option Nat} {i : Int32} (ha : ws[q0]? = some (a, .inl (cA, n, .inr (.inr (.inr (.inr f)))))) (ht : (ztys cy)[t0]? = some (cA, .object r.1)) (hv : ws[qk]? = some (v, .inr (ci, vs))) (hc : zcl[ci]? = some r) (hin : vp_in i n) (hdg : decode cc pc = .ok (.aastore, 1)) (ws2 : va_W) (hw : ws.set q0 (a, .inl (cA, n, .inr (.inr (.inr (.inr (va_up f i.toNatClampNeg (some v))))))) = ws2)
    (kk : ∀ (H1 : Heap) (locs1 : List Loc), zT G A H0 H1 locs1 ws2 → W p l e R s m args below meth c H1 locs1 cells slots Q (F0 m (pc + 1) ls rest)) : W p l e R s m args below meth c H locs cells slots Q (F0 m pc ls (.ref v :: .int i :: .ref a :: rest)) := by
  subst hw
  exact va_astq hx hb hK.1 hT.1 hT.2.1 hT.2.2 q0 t0 qk ci ha ht hv hc hin hdg (fun H1 locs1 hP hD hS => kk H1 locs1 ⟨hP, hD, hS⟩)
theorem z_new (hx : p.tables.exec = Jvm.exec) (hb : c.code = cc) (hts : ∀ w ∈ lwg, w.before args s = true) (hown : s.vm.findClass own = some m.cls) (hK : zK G cy s) (hA : ∀ q, H0.size ≤ q → A q) (hT : zT G A H0 H locs ws) (ci : Nat) (fs : List Value) {C : String} {T : u_T} {N index : Nat} (hc : zcl[ci]? = some (C, T, N)) (hfs : ∀ j, j < N → defaultValue (ztyof ci j) = vp_V fs j) (w1 : Cond.classLink own index C ∈ lwg) (w2 : Cond.instantiable C N ∈ lwg) (w3 : Cond.initialized C ∈ lwg) (hcells : cells + 1 ≤ R.cells) (hslots : slots + N ≤ R.slots) (hdg : decode cc pc = .ok (.new index, 3)) (ws2 : Nat → va_W) (hw : ∀ q, ws ++ [(q, .inr (ci, fs))] = ws2 q)
    (kk : ∀ (q : Nat) (H1 : Heap), zT G A H0 H1 locs (ws2 q) → W p l e R s m args below meth c H1 locs (cells + 1) (slots + N) Q (F0 m (pc + 3) ls (.ref q :: rest))) : W p l e R s m args below meth c H locs cells slots Q (F0 m pc ls rest) :=
  va_new (D := G) hx hb hts (zin hc) (ztyof ci) (zty hc) hown (hts _ w1) (hts _ w2) (hts _ w3) hK.1 hT.1 hT.2.1 hT.2.2 hA hc hfs hcells hslots hdg (fun q H1 hP hD hS => kk q H1 (by rw [← hw q]; exact ⟨hP, hD, hS⟩))
theorem z_newI (hx : p.tables.exec = Jvm.exec) (hb : c.code = cc) (hts : ∀ w ∈ lwg, w.before args s = true) (hK : zK G cy s) (hA : ∀ q, H0.size ≤ q → A q) (hT : zT G A H0 H locs ws) {n : Int32} {N : Nat} (hn : n = nI N) (hN : N < 2147483648) (hby : N * 8 ≤ 536870912) (hcells : cells + 1 ≤ R.cells) (hslots : slots + N ≤ R.slots) (hdg : decode cc pc = .ok (.newarray .int, 2)) (ws2 : Nat → va_W) (hw : ∀ q, ws ++ [(q, .inl (cy 0, N, .inl (kc 0)))] = ws2 q)
    (kk : ∀ (q : Nat) (H1 : Heap), zT G A H0 H1 locs (ws2 q) → W p l e R s m args below meth c H1 locs (cells + 1) (slots + N) Q (F0 m (pc + 2) ls (.ref q :: rest))) : W p l e R s m args below meth c H locs cells slots Q (F0 m pc ls (.int n :: rest)) := by
  subst hn
  refine va_newa (atype := .int) (ty := .int) (a0 := (N, .inl (kc 0))) hx hb (hts _ w1_160) rfl hK.1 hT.1 hT.2.1 hT.2.2 hA (fun _ => rfl) (nI_pos hN) (nI_clamp hN) (by simp only [componentBytes]; omega) hcells hslots hdg (fun q cA H1 hK2 hP hD hS => ?_)
  have e1 := (hK2.2 6 (cA, .int) rfl).2
  have e2 := (hK.1.2 0 (cy 0, .int) rfl).2
  have e : cy 0 = cA := Option.some.inj (e2.symm.trans e1)
  subst e
  exact kk q H1 (by rw [← hw q]; exact ⟨hP, hD, hS⟩)
theorem z_newJ (hx : p.tables.exec = Jvm.exec) (hb : c.code = cc) (hts : ∀ w ∈ lwg, w.before args s = true) (hK : zK G cy s) (hA : ∀ q, H0.size ≤ q → A q) (hT : zT G A H0 H locs ws) {n : Int32} {N : Nat} (hn : n = nI N) (hN : N < 2147483648) (hby : N * 8 ≤ 536870912) (hcells : cells + 1 ≤ R.cells) (hslots : slots + N ≤ R.slots) (hdg : decode cc pc = .ok (.newarray .long, 2)) (ws2 : Nat → va_W) (hw : ∀ q, ws ++ [(q, .inl (cy 1, N, .inr (.inl (kl 0))))] = ws2 q)
    (kk : ∀ (q : Nat) (H1 : Heap), zT G A H0 H1 locs (ws2 q) → W p l e R s m args below meth c H1 locs (cells + 1) (slots + N) Q (F0 m (pc + 2) ls (.ref q :: rest))) : W p l e R s m args below meth c H locs cells slots Q (F0 m pc ls (.int n :: rest)) := by
  subst hn
  refine va_newa (atype := .long) (ty := .long) (a0 := (N, .inr (.inl (kl 0)))) hx hb (hts _ w2_9) rfl hK.1 hT.1 hT.2.1 hT.2.2 hA (fun _ => rfl) (nI_pos hN) (nI_clamp hN) (by simp only [componentBytes]; omega) hcells hslots hdg (fun q cA H1 hK2 hP hD hS => ?_)
  have e1 := (hK2.2 6 (cA, .long) rfl).2
  have e2 := (hK.1.2 1 (cy 1, .long) rfl).2
  have e : cy 1 = cA := Option.some.inj (e2.symm.trans e1)
  subst e
  exact kk q H1 (by rw [← hw q]; exact ⟨hP, hD, hS⟩)
theorem z_newZ (hx : p.tables.exec = Jvm.exec) (hb : c.code = cc) (hts : ∀ w ∈ lwg, w.before args s = true) (hK : zK G cy s) (hA : ∀ q, H0.size ≤ q → A q) (hT : zT G A H0 H locs ws) {n : Int32} {N : Nat} (hn : n = nI N) (hN : N < 2147483648) (hby : N * 8 ≤ 536870912) (hcells : cells + 1 ≤ R.cells) (hslots : slots + N ≤ R.slots) (hdg : decode cc pc = .ok (.newarray .boolean, 2)) (ws2 : Nat → va_W) (hw : ∀ q, ws ++ [(q, .inl (cy 2, N, .inl (kc 0)))] = ws2 q)
    (kk : ∀ (q : Nat) (H1 : Heap), zT G A H0 H1 locs (ws2 q) → W p l e R s m args below meth c H1 locs (cells + 1) (slots + N) Q (F0 m (pc + 2) ls (.ref q :: rest))) : W p l e R s m args below meth c H locs cells slots Q (F0 m pc ls (.int n :: rest)) := by
  subst hn
  refine va_newa (atype := .boolean) (ty := .boolean) (a0 := (N, .inl (kc 0))) hx hb (hts _ w2_10) rfl hK.1 hT.1 hT.2.1 hT.2.2 hA (fun _ => rfl) (nI_pos hN) (nI_clamp hN) (by simp only [componentBytes]; omega) hcells hslots hdg (fun q cA H1 hK2 hP hD hS => ?_)
  have e1 := (hK2.2 6 (cA, .boolean) rfl).2
  have e2 := (hK.1.2 2 (cy 2, .boolean) rfl).2
  have e : cy 2 = cA := Option.some.inj (e2.symm.trans e1)
  subst e
  exact kk q H1 (by rw [← hw q]; exact ⟨hP, hD, hS⟩)
end ZO
section ZP
variable {p : Program} {l : Launch} {e : Env} {s : State} {m : MethodId} {args : Array Value} {below : List Frame} {meth : Method} {c : Code} {H H0 : Heap} {locs : List Loc} {cells slots D MC MS : Nat} {Q : State → Prop}
variable {cc : ByteArray} {pc nL : Nat} {ls : Array Slot} {rest : List Value} {G : va_G} {cy : Nat → ClassId} {A : Nat → Prop} {a : Nat} {ws : va_W} {own : String}
theorem z_objInit {idx : Nat} (hx : p.tables.exec = Jvm.exec) (hb : c.code = cc) (hml : c.maxLocals = nL) (hown : s.vm.findClass own = some m.cls) (hts : ∀ w ∈ lwg, w.before args s = true) (w1 : Cond.methodLink own idx Lib.objectInit ∈ lwg) (w2 : Cond.instanceMethod Lib.objectInit ∈ lwg) (w3 : Cond.code Lib.objectInit ⟨#[0xb1]⟩ 1 none ∈ lwg) (hsz : ls.size = nL) (hw8 : (rest.map fun v => v.category).sum ≤ 8) (hdg : decode cc pc = .ok (.invokespecial idx, 3))
    (kk : W p l e (zR D MC MS) s m args below meth c H locs cells slots Q (F0 m (pc + 3) ls rest)) : W p l e (zR D MC MS) s m args below meth c H locs cells slots Q (F0 m pc ls (.ref a :: rest)) :=
  W.objInit hx hb hown (hts _ w1) (hts _ w2) (hts _ w3) rfl (by rw [hml]; exact hsz) rfl hdg (by simp only [zR]; omega) (by have h := lv_room (m := m) (pc := pc) (ls := ls) (rest := .ref a :: rest) hw8; simp only [zR]; omega) kk
theorem z_mmin {idx : Nat} {x y v : Int32} (hx : p.tables.exec = Jvm.exec) (hb : c.code = cc) (hml : c.maxLocals = nL) (hown : s.vm.findClass own = some m.cls) (hts : ∀ w ∈ lwg, w.before args s = true) (w1 : Cond.methodLink own idx Lib.Math.min.name ∈ lwg) (hsz : ls.size = nL) (hw8 : (rest.map fun v => v.category).sum ≤ 8) (hc : cells ≤ MC) (hs : slots ≤ MS) (hv : (if y < x then y else x) = v) (hdg : decode cc pc = .ok (.invokestatic idx, 3))
    (kk : W p l e (zR D MC MS) s m args below meth c H locs cells slots Q (F0 m (pc + 3) ls (.int v :: rest))) : W p l e (zR D MC MS) s m args below meth c H locs cells slots Q (F0 m pc ls (.int y :: .int x :: rest)) := by
  subst hv
  exact va_mmin hx hb (by rw [hml, hsz]) hown (hts _ w1) (hts _ w3_210) (hts _ w1_20) (hts _ w3_211) (by simp only [zR]; omega) (by simp only [zR]; omega) hc hs hdg kk
theorem z_mminL {idx : Nat} {x y v : Int64} (hx : p.tables.exec = Jvm.exec) (hb : c.code = cc) (hml : c.maxLocals = nL) (hown : s.vm.findClass own = some m.cls) (hts : ∀ w ∈ lwg, w.before args s = true) (w1 : Cond.methodLink own idx Lib.MathLoose.min_long.x ∈ lwg) (hsz : ls.size = nL) (hw8 : (rest.map fun v => v.category).sum ≤ 8) (hc : cells ≤ MC) (hs : slots ≤ MS) (hv : (if y < x then y else x) = v) (hdg : decode cc pc = .ok (.invokestatic idx, 3))
    (kk : W p l e (zR D MC MS) s m args below meth c H locs cells slots Q (F0 m (pc + 3) ls (.long v :: rest))) : W p l e (zR D MC MS) s m args below meth c H locs cells slots Q (F0 m pc ls (.long y :: .long x :: rest)) := by
  subst hv
  exact va_mmin_long hx hb (by rw [hml, hsz]) hown (hts _ w1) (hts _ w7_71) (hts _ w1_20) (hts _ w7_72) (by simp only [zR]; omega) (by simp only [zR]; omega) hc hs hdg kk
end ZP
def zfs0 : List Value := [.int 0, .int 0, .int 0, .int 0, .long 0, .null, .null, .null, .null, .null, .null, .int 0, .int 0, .int 0, .long 0]
theorem zfs0_ok : ∀ j, j < 15 → defaultValue (ztyof 0 j) = vp_V zfs0 j := by
  intro j hj
  match j, hj with
  | 0, _ => rfl
  | 1, _ => rfl
  | 2, _ => rfl
  | 3, _ => rfl
  | 4, _ => rfl
  | 5, _ => rfl
  | 6, _ => rfl
  | 7, _ => rfl
  | 8, _ => rfl
  | 9, _ => rfl
  | 10, _ => rfl
  | 11, _ => rfl
  | 12, _ => rfl
  | 13, _ => rfl
  | 14, _ => rfl
  | k + 15, h => exact absurd h (by omega)
def zfs1 : List Value := [.int 0, .int 0, .null, .null, .null, .null]
theorem zfs1_ok : ∀ j, j < 6 → defaultValue (ztyof 1 j) = vp_V zfs1 j := by
  intro j hj
  match j, hj with
  | 0, _ => rfl
  | 1, _ => rfl
  | 2, _ => rfl
  | 3, _ => rfl
  | 4, _ => rfl
  | 5, _ => rfl
  | k + 6, h => exact absurd h (by omega)
def zfs2 : List Value := [.null, .null, .null, .null]
theorem zfs2_ok : ∀ j, j < 4 → defaultValue (ztyof 2 j) = vp_V zfs2 j := by
  intro j hj
  match j, hj with
  | 0, _ => rfl
  | 1, _ => rfl
  | 2, _ => rfl
  | 3, _ => rfl
  | k + 4, h => exact absurd h (by omega)
def zfs3 : List Value := [.int 0, .int 0, .int 0, .int 0, .null, .null, .null, .null, .null, .null, .null, .null, .null, .null]
theorem zfs3_ok : ∀ j, j < 14 → defaultValue (ztyof 3 j) = vp_V zfs3 j := by
  intro j hj
  match j, hj with
  | 0, _ => rfl
  | 1, _ => rfl
  | 2, _ => rfl
  | 3, _ => rfl
  | 4, _ => rfl
  | 5, _ => rfl
  | 6, _ => rfl
  | 7, _ => rfl
  | 8, _ => rfl
  | 9, _ => rfl
  | 10, _ => rfl
  | 11, _ => rfl
  | 12, _ => rfl
  | 13, _ => rfl
  | k + 14, h => exact absurd h (by omega)
def zfs4 : List Value := [.null, .null, .null, .null, .null, .null, .null, .int 0]
theorem zfs4_ok : ∀ j, j < 8 → defaultValue (ztyof 4 j) = vp_V zfs4 j := by
  intro j hj
  match j, hj with
  | 0, _ => rfl
  | 1, _ => rfl
  | 2, _ => rfl
  | 3, _ => rfl
  | 4, _ => rfl
  | 5, _ => rfl
  | 6, _ => rfl
  | 7, _ => rfl
  | k + 8, h => exact absurd h (by omega)
def zfs5 : List Value := [.null, .null, .int 0, .int 0, .null]
theorem zfs5_ok : ∀ j, j < 5 → defaultValue (ztyof 5 j) = vp_V zfs5 j := by
  intro j hj
  match j, hj with
  | 0, _ => rfl
  | 1, _ => rfl
  | 2, _ => rfl
  | 3, _ => rfl
  | 4, _ => rfl
  | k + 5, h => exact absurd h (by omega)
def zfs6 : List Value := [.null, .null, .null, .null, .null, .null]
theorem zfs6_ok : ∀ j, j < 6 → defaultValue (ztyof 6 j) = vp_V zfs6 j := by
  intro j hj
  match j, hj with
  | 0, _ => rfl
  | 1, _ => rfl
  | 2, _ => rfl
  | 3, _ => rfl
  | 4, _ => rfl
  | 5, _ => rfl
  | k + 6, h => exact absurd h (by omega)
def zfs7 : List Value := [.int 0, .int 0, .null, .null, .null, .null, .null, .null]
theorem zfs7_ok : ∀ j, j < 8 → defaultValue (ztyof 7 j) = vp_V zfs7 j := by
  intro j hj
  match j, hj with
  | 0, _ => rfl
  | 1, _ => rfl
  | 2, _ => rfl
  | 3, _ => rfl
  | 4, _ => rfl
  | 5, _ => rfl
  | 6, _ => rfl
  | 7, _ => rfl
  | k + 8, h => exact absurd h (by omega)
def zfs8 : List Value := [.int 0, .null, .null, .int 0, .null, .null, .null, .null]
theorem zfs8_ok : ∀ j, j < 8 → defaultValue (ztyof 8 j) = vp_V zfs8 j := by
  intro j hj
  match j, hj with
  | 0, _ => rfl
  | 1, _ => rfl
  | 2, _ => rfl
  | 3, _ => rfl
  | 4, _ => rfl
  | 5, _ => rfl
  | 6, _ => rfl
  | 7, _ => rfl
  | k + 8, h => exact absurd h (by omega)
def zfs9 : List Value := [.int 0, .null, .int 0, .int 0, .int 0, .int 0]
theorem zfs9_ok : ∀ j, j < 6 → defaultValue (ztyof 9 j) = vp_V zfs9 j := by
  intro j hj
  match j, hj with
  | 0, _ => rfl
  | 1, _ => rfl
  | 2, _ => rfl
  | 3, _ => rfl
  | 4, _ => rfl
  | 5, _ => rfl
  | k + 6, h => exact absurd h (by omega)
def zfs10 : List Value := [.int 0, .null, .null, .null, .int 0, .int 0, .null, .null, .null, .null]
theorem zfs10_ok : ∀ j, j < 10 → defaultValue (ztyof 10 j) = vp_V zfs10 j := by
  intro j hj
  match j, hj with
  | 0, _ => rfl
  | 1, _ => rfl
  | 2, _ => rfl
  | 3, _ => rfl
  | 4, _ => rfl
  | 5, _ => rfl
  | 6, _ => rfl
  | 7, _ => rfl
  | 8, _ => rfl
  | 9, _ => rfl
  | k + 10, h => exact absurd h (by omega)
def zfs11 : List Value := [.null, .null, .null, .null, .null, .null, .null, .null, .null, .null, .null, .int 0, .int 0, .int 0, .int 0]
theorem zfs11_ok : ∀ j, j < 15 → defaultValue (ztyof 11 j) = vp_V zfs11 j := by
  intro j hj
  match j, hj with
  | 0, _ => rfl
  | 1, _ => rfl
  | 2, _ => rfl
  | 3, _ => rfl
  | 4, _ => rfl
  | 5, _ => rfl
  | 6, _ => rfl
  | 7, _ => rfl
  | 8, _ => rfl
  | 9, _ => rfl
  | 10, _ => rfl
  | 11, _ => rfl
  | 12, _ => rfl
  | 13, _ => rfl
  | 14, _ => rfl
  | k + 15, h => exact absurd h (by omega)
def zfs12 : List Value := [.int 0, .null, .int 0, .int 0, .int 0, .int 0, .int 0, .int 0, .null, .null, .null, .null, .int 0, .null, .null, .int 0, .null, .null, .null, .null, .null, .int 0, .null, .null, .null, .int 0, .null, .null, .null, .int 0, .int 0, .null, .null, .null, .int 0, .long 0, .long 0, .null, .null, .null, .null, .null, .null, .null, .null, .null, .null, .int 0, .int 0, .null, .null, .null, .null, .null, .null, .null, .null, .null, .int 0, .int 0, .int 0, .int 0, .long 0, .null, .null, .null, .int 0, .int 0, .long 0]
theorem zfs12_ok : ∀ j, j < 69 → defaultValue (ztyof 12 j) = vp_V zfs12 j := by
  intro j hj
  match j, hj with
  | 0, _ => rfl
  | 1, _ => rfl
  | 2, _ => rfl
  | 3, _ => rfl
  | 4, _ => rfl
  | 5, _ => rfl
  | 6, _ => rfl
  | 7, _ => rfl
  | 8, _ => rfl
  | 9, _ => rfl
  | 10, _ => rfl
  | 11, _ => rfl
  | 12, _ => rfl
  | 13, _ => rfl
  | 14, _ => rfl
  | 15, _ => rfl
  | 16, _ => rfl
  | 17, _ => rfl
  | 18, _ => rfl
  | 19, _ => rfl
  | 20, _ => rfl
  | 21, _ => rfl
  | 22, _ => rfl
  | 23, _ => rfl
  | 24, _ => rfl
  | 25, _ => rfl
  | 26, _ => rfl
  | 27, _ => rfl
  | 28, _ => rfl
  | 29, _ => rfl
  | 30, _ => rfl
  | 31, _ => rfl
  | 32, _ => rfl
  | 33, _ => rfl
  | 34, _ => rfl
  | 35, _ => rfl
  | 36, _ => rfl
  | 37, _ => rfl
  | 38, _ => rfl
  | 39, _ => rfl
  | 40, _ => rfl
  | 41, _ => rfl
  | 42, _ => rfl
  | 43, _ => rfl
  | 44, _ => rfl
  | 45, _ => rfl
  | 46, _ => rfl
  | 47, _ => rfl
  | 48, _ => rfl
  | 49, _ => rfl
  | 50, _ => rfl
  | 51, _ => rfl
  | 52, _ => rfl
  | 53, _ => rfl
  | 54, _ => rfl
  | 55, _ => rfl
  | 56, _ => rfl
  | 57, _ => rfl
  | 58, _ => rfl
  | 59, _ => rfl
  | 60, _ => rfl
  | 61, _ => rfl
  | 62, _ => rfl
  | 63, _ => rfl
  | 64, _ => rfl
  | 65, _ => rfl
  | 66, _ => rfl
  | 67, _ => rfl
  | 68, _ => rfl
  | k + 69, h => exact absurd h (by omega)
/-! calls: what links a call, the callee's contract, the cells that it takes -/
theorem zgood {w : Cond} (h : w ∈ lwg) : GoodIn lwg (w :: lwg) := fun v hv => (List.mem_cons.mp hv).elim (fun e => by rw [e]; exact ⟨h, lwg_g h⟩) (fun h => ⟨h, lwg_g h⟩)
def zhd (y : MethodName) (n : Nat) : Prop := y.cls ≠ "java/lang/invoke/MethodHandle" ∧ y.cls ≠ "java/lang/invoke/VarHandle" ∧ (parseMethodDescriptor y.desc).map (fun d => d.parameters.length) = some n
def zLV (own : String) (idx : Nat) (y : MethodName) (C : String) (yc : ByteArray) (yn : Nat) (ret : Option FieldType) (n : Nat) : Prop := Cond.methodLink own idx y ∈ lwg ∧ Cond.instanceMethod y ∈ lwg ∧ Cond.selects C y y ∈ lwg ∧ Cond.initialized y.cls ∈ lwg ∧ Cond.code y yc yn ret ∈ lwg ∧ zhd y n ∧ yn ≤ 40
def zLS (own : String) (idx : Nat) (y : MethodName) (yc : ByteArray) (yn : Nat) (ret : Option FieldType) (n : Nat) : Prop := Cond.methodLink own idx y ∈ lwg ∧ Cond.static y ∈ lwg ∧ Cond.initialized y.cls ∈ lwg ∧ Cond.code y yc yn ret ∈ lwg ∧ zhd y n ∧ yn ≤ 40
def zLI (own : String) (idx : Nat) (y : MethodName) (yc : ByteArray) (yn : Nat) (ret : Option FieldType) (n : Nat) : Prop := Cond.methodLink own idx y ∈ lwg ∧ Cond.instanceMethod y ∈ lwg ∧ y.name = "<init>" ∧ Cond.initialized y.cls ∈ lwg ∧ Cond.code y yc yn ret ∈ lwg ∧ zhd y n ∧ yn ≤ 40
def zLSN (own : String) (idx : Nat) (y : MethodName) (yc : ByteArray) (yn : Nat) (ret : Option FieldType) (n : Nat) : Prop := (own, idx, y, "CostBench") ∈ znest ∧ Cond.static y ∈ lwg ∧ Cond.initialized y.cls ∈ lwg ∧ Cond.code y yc yn ret ∈ lwg ∧ zhd y n ∧ yn ≤ 40
def zLIN (own : String) (idx : Nat) (y : MethodName) (yc : ByteArray) (yn : Nat) (ret : Option FieldType) (n : Nat) : Prop := (own, idx, y, "CostBench") ∈ znest ∧ Cond.instanceMethod y ∈ lwg ∧ y.name = "<init>" ∧ Cond.initialized y.cls ∈ lwg ∧ Cond.code y yc yn ret ∈ lwg ∧ zhd y n ∧ yn ≤ 40
theorem zfm {ws : va_W} : ∀ {is : List Nat}, is.all (fun i => decide (i < ws.length)) = true → is.map (fun i => ws[i]?) = (is.filterMap (fun i => ws[i]?)).map some
  | [], _ => rfl
  | i :: is, h => by
    rw [List.all_cons, Bool.and_eq_true, decide_eq_true_eq] at h
    rw [List.map_cons, List.filterMap_cons, List.getElem?_eq_getElem h.1, zfm h.2]
    rfl
theorem zdis {a b : List Nat} (h : a.all (fun i => !b.contains i) = true) : ∀ i ∈ a, i ∉ b := fun i hi hb => by
  have h1 := List.all_eq_true.mp h i hi
  rw [List.contains_iff_mem.mpr hb] at h1
  cases h1
theorem zroom {D d MC MS mc ms yn : Nat} (hd : d < D) (hn : yn ≤ 40) : (zR d mc ms).frames + 1 ≤ (zR D MC MS).frames ∧ 8 + (yn + 11) + (zR d mc ms).locals ≤ (zR D MC MS).locals := by
  constructor <;> simp only [zR] <;> omega
section ZC
variable {p : Program} {l : Launch} {e : Env} {s : State} {m : MethodId} {args : Array Value} {below : List Frame} {meth : Method} {c : Code} {H H0 : Heap} {locs : List Loc} {cells slots : Nat} {Q : State → Prop}
variable {cc : ByteArray} {pc nL : Nat} {ls : Array Slot} {rest : List Value} {G : va_G} {cy : Nat → ClassId} {A : Nat → Prop} {ws : va_W} {own : String}
variable {D MC MS d mc ms yn n idx : Nat} {y : MethodName} {yc : ByteArray} {ret : Option FieldType} {b : Nat} {As st0 : List Value} {wc : va_W} {wc' : (Nat → Nat → Nat) → va_W}
theorem z_pre {av : List Value} (hK : zK G cy s) (hT : zT G A H0 H locs ws) (isC : List Nat) (hnC : va_nd isC = true) (hC : isC.map (fun i => ws[i]?) = wc.map some) : PreS s H (zPre G cy av H.size wc) av :=
  ⟨zPre_blind, fun U hU hW => ⟨rfl, by rw [hU], by rw [hU]; exact (hT.sub isC hnC hC).1, hK.warm hW, (hT.sub isC hnC hC).2.1.weaken (fun _ _ _ _ => trivial)⟩⟩
theorem z_cVI {C : String} {ci N : Nat} {T : u_T} {fs : List Value} {r : Int32} (hx : p.tables.exec = Jvm.exec) (hb : c.code = cc) (hml : c.maxLocals = nL) (hown : s.vm.findClass own = some m.cls) (hts : ∀ w ∈ lwg, w.before args s = true) (hK : zK G cy s) (hA : ∀ q, H0.size ≤ q → A q) (hT : zT G A H0 H locs ws) (L : zLV own idx y C yc yn ret n) (hM : zI l G cy y yc yn ret d mc ms (.ref b :: As) wc r wc') (isC isR : List Nat) (hnC : va_nd isC = true) (hnR : va_nd isR = true) (hdis : isR.all (fun i => !isC.contains i) = true) (hC : isC.map (fun i => ws[i]?) = wc.map some) (hR : isR.all (fun i => decide (i < ws.length)) = true) (q0 : Nat) (hq : wc[q0]? = some (b, .inr (ci, fs))) (hcl : zcl[ci]? = some (C, T, N)) (hd : d < D) (hlen : As.length = n) (hsz : ls.size = nL) (hst : st0 = As.reverse ++ .ref b :: rest) (hw8 : (rest.map fun v => v.category).sum ≤ 8) (hdg : decode cc pc = .ok (.invokevirtual idx, 3)) (hf : cells + mc ≤ (zR D MC MS).cells ∧ slots + ms ≤ (zR D MC MS).slots) (ws2 : (Nat → Nat → Nat) → va_W) (hw2 : ∀ qs, isR.filterMap (fun i => ws[i]?) ++ wc' qs = ws2 qs)
    (kk : ∀ (qs : Nat → Nat → Nat) (H1 : Heap) (locs1 : List Loc), zT G A H0 H1 locs1 (ws2 qs) → W p l e (zR D MC MS) s m args below meth c H1 locs1 (cells + mc) (slots + ms) Q (F0 m (pc + 3) ls (.int r :: rest))) : W p l e (zR D MC MS) s m args below meth c H locs cells slots Q (F0 m pc ls st0) := by
  have hFc : ∀ q, va_A wc H.size q → A q := va_free hT.2.1 hT.2.2 hA isC hC
  refine va_calli (va_runV (As := As) (rest := rest) ⟨hx, hb, hml, hown, hts⟩ (hM H.size) ⟨callB_of n hts (zgood L.2.2.2.2.1) rfl rfl rfl (hts _ L.2.2.2.1) (hts _ L.1) L.2.2.2.2.2.1 (zroom hd L.2.2.2.2.2.2), hts _ L.2.1, hts _ L.2.2.1⟩ ⟨zPre_blind, va_recv hK.1 (hT.sub isC hnC hC).1 hcl hq, (z_pre hK hT isC hnC hC).2⟩ rfl hlen hsz hst (lv_room hw8) hdg hf) hT.2.2 (fun q _ h => hFc q h) hFc (fun r9 u t H1 locs1 ht hvm hp hB hz1 hk1 hS => ?_)
  obtain rfl : r9 = r := hp
  obtain ⟨qs, hP1, hD1⟩ := hB
  rw [ht] at hP1
  obtain ⟨hP9, hD9⟩ := va_join (wr := isR.filterMap (fun i => ws[i]?)) (w1 := wc' qs) hT.1 hT.2.1 isC isR hC (zfm hR) hnR (zdis hdis) hk1 hFc hP1 hD1
  exact kk qs H1 locs1 (by rw [← hw2 qs]; exact ⟨hP9, hD9, hS⟩)
theorem z_cVJ {C : String} {ci N : Nat} {T : u_T} {fs : List Value} {r : Int64} (hx : p.tables.exec = Jvm.exec) (hb : c.code = cc) (hml : c.maxLocals = nL) (hown : s.vm.findClass own = some m.cls) (hts : ∀ w ∈ lwg, w.before args s = true) (hK : zK G cy s) (hA : ∀ q, H0.size ≤ q → A q) (hT : zT G A H0 H locs ws) (L : zLV own idx y C yc yn ret n) (hM : zJ l G cy y yc yn ret d mc ms (.ref b :: As) wc r wc') (isC isR : List Nat) (hnC : va_nd isC = true) (hnR : va_nd isR = true) (hdis : isR.all (fun i => !isC.contains i) = true) (hC : isC.map (fun i => ws[i]?) = wc.map some) (hR : isR.all (fun i => decide (i < ws.length)) = true) (q0 : Nat) (hq : wc[q0]? = some (b, .inr (ci, fs))) (hcl : zcl[ci]? = some (C, T, N)) (hd : d < D) (hlen : As.length = n) (hsz : ls.size = nL) (hst : st0 = As.reverse ++ .ref b :: rest) (hw8 : (rest.map fun v => v.category).sum ≤ 8) (hdg : decode cc pc = .ok (.invokevirtual idx, 3)) (hf : cells + mc ≤ (zR D MC MS).cells ∧ slots + ms ≤ (zR D MC MS).slots) (ws2 : (Nat → Nat → Nat) → va_W) (hw2 : ∀ qs, isR.filterMap (fun i => ws[i]?) ++ wc' qs = ws2 qs)
    (kk : ∀ (qs : Nat → Nat → Nat) (H1 : Heap) (locs1 : List Loc), zT G A H0 H1 locs1 (ws2 qs) → W p l e (zR D MC MS) s m args below meth c H1 locs1 (cells + mc) (slots + ms) Q (F0 m (pc + 3) ls (.long r :: rest))) : W p l e (zR D MC MS) s m args below meth c H locs cells slots Q (F0 m pc ls st0) := by
  have hFc : ∀ q, va_A wc H.size q → A q := va_free hT.2.1 hT.2.2 hA isC hC
  refine va_calll (va_runV (As := As) (rest := rest) ⟨hx, hb, hml, hown, hts⟩ (hM H.size) ⟨callB_of n hts (zgood L.2.2.2.2.1) rfl rfl rfl (hts _ L.2.2.2.1) (hts _ L.1) L.2.2.2.2.2.1 (zroom hd L.2.2.2.2.2.2), hts _ L.2.1, hts _ L.2.2.1⟩ ⟨zPre_blind, va_recv hK.1 (hT.sub isC hnC hC).1 hcl hq, (z_pre hK hT isC hnC hC).2⟩ rfl hlen hsz hst (lv_room hw8) hdg hf) hT.2.2 (fun q _ h => hFc q h) hFc (fun r9 u t H1 locs1 ht hvm hp hB hz1 hk1 hS => ?_)
  obtain rfl : r9 = r := hp
  obtain ⟨qs, hP1, hD1⟩ := hB
  rw [ht] at hP1
  obtain ⟨hP9, hD9⟩ := va_join (wr := isR.filterMap (fun i => ws[i]?)) (w1 := wc' qs) hT.1 hT.2.1 isC isR hC (zfm hR) hnR (zdis hdis) hk1 hFc hP1 hD1
  exact kk qs H1 locs1 (by rw [← hw2 qs]; exact ⟨hP9, hD9, hS⟩)
theorem z_cVV {C : String} {ci N : Nat} {T : u_T} {fs : List Value} (hx : p.tables.exec = Jvm.exec) (hb : c.code = cc) (hml : c.maxLocals = nL) (hown : s.vm.findClass own = some m.cls) (hts : ∀ w ∈ lwg, w.before args s = true) (hK : zK G cy s) (hA : ∀ q, H0.size ≤ q → A q) (hT : zT G A H0 H locs ws) (L : zLV own idx y C yc yn ret n) (hM : zV l G cy y yc yn ret d mc ms (.ref b :: As) wc wc') (isC isR : List Nat) (hnC : va_nd isC = true) (hnR : va_nd isR = true) (hdis : isR.all (fun i => !isC.contains i) = true) (hC : isC.map (fun i => ws[i]?) = wc.map some) (hR : isR.all (fun i => decide (i < ws.length)) = true) (q0 : Nat) (hq : wc[q0]? = some (b, .inr (ci, fs))) (hcl : zcl[ci]? = some (C, T, N)) (hd : d < D) (hlen : As.length = n) (hsz : ls.size = nL) (hst : st0 = As.reverse ++ .ref b :: rest) (hw8 : (rest.map fun v => v.category).sum ≤ 8) (hdg : decode cc pc = .ok (.invokevirtual idx, 3)) (hf : cells + mc ≤ (zR D MC MS).cells ∧ slots + ms ≤ (zR D MC MS).slots) (ws2 : (Nat → Nat → Nat) → va_W) (hw2 : ∀ qs, isR.filterMap (fun i => ws[i]?) ++ wc' qs = ws2 qs)
    (kk : ∀ (qs : Nat → Nat → Nat) (H1 : Heap) (locs1 : List Loc), zT G A H0 H1 locs1 (ws2 qs) → W p l e (zR D MC MS) s m args below meth c H1 locs1 (cells + mc) (slots + ms) Q (F0 m (pc + 3) ls (rest))) : W p l e (zR D MC MS) s m args below meth c H locs cells slots Q (F0 m pc ls st0) := by
  have hFc : ∀ q, va_A wc H.size q → A q := va_free hT.2.1 hT.2.2 hA isC hC
  refine va_callv (va_runV (As := As) (rest := rest) ⟨hx, hb, hml, hown, hts⟩ (hM H.size) ⟨callB_of n hts (zgood L.2.2.2.2.1) rfl rfl rfl (hts _ L.2.2.2.1) (hts _ L.1) L.2.2.2.2.2.1 (zroom hd L.2.2.2.2.2.2), hts _ L.2.1, hts _ L.2.2.1⟩ ⟨zPre_blind, va_recv hK.1 (hT.sub isC hnC hC).1 hcl hq, (z_pre hK hT isC hnC hC).2⟩ rfl hlen hsz hst (lv_room hw8) hdg hf) hT.2.2 (fun q _ h => hFc q h) hFc (fun u t H1 locs1 ht hvm hp hB hz1 hk1 hS => ?_)
  obtain ⟨qs, hP1, hD1⟩ := hB
  rw [ht] at hP1
  obtain ⟨hP9, hD9⟩ := va_join (wr := isR.filterMap (fun i => ws[i]?)) (w1 := wc' qs) hT.1 hT.2.1 isC isR hC (zfm hR) hnR (zdis hdis) hk1 hFc hP1 hD1
  exact kk qs H1 locs1 (by rw [← hw2 qs]; exact ⟨hP9, hD9, hS⟩)
theorem z_cSI {r : Int32} (hx : p.tables.exec = Jvm.exec) (hb : c.code = cc) (hml : c.maxLocals = nL) (hown : s.vm.findClass own = some m.cls) (hts : ∀ w ∈ lwg, w.before args s = true) (hK : zK G cy s) (hA : ∀ q, H0.size ≤ q → A q) (hT : zT G A H0 H locs ws) (L : zLS own idx y yc yn ret n) (hM : zI l G cy y yc yn ret d mc ms (As) wc r wc') (isC isR : List Nat) (hnC : va_nd isC = true) (hnR : va_nd isR = true) (hdis : isR.all (fun i => !isC.contains i) = true) (hC : isC.map (fun i => ws[i]?) = wc.map some) (hR : isR.all (fun i => decide (i < ws.length)) = true) (hd : d < D) (hlen : As.length = n) (hsz : ls.size = nL) (hst : st0 = As.reverse ++ rest) (hw8 : (rest.map fun v => v.category).sum ≤ 8) (hdg : decode cc pc = .ok (.invokestatic idx, 3)) (hf : cells + mc ≤ (zR D MC MS).cells ∧ slots + ms ≤ (zR D MC MS).slots) (ws2 : (Nat → Nat → Nat) → va_W) (hw2 : ∀ qs, isR.filterMap (fun i => ws[i]?) ++ wc' qs = ws2 qs)
    (kk : ∀ (qs : Nat → Nat → Nat) (H1 : Heap) (locs1 : List Loc), zT G A H0 H1 locs1 (ws2 qs) → W p l e (zR D MC MS) s m args below meth c H1 locs1 (cells + mc) (slots + ms) Q (F0 m (pc + 3) ls (.int r :: rest))) : W p l e (zR D MC MS) s m args below meth c H locs cells slots Q (F0 m pc ls st0) := by
  have hFc : ∀ q, va_A wc H.size q → A q := va_free hT.2.1 hT.2.2 hA isC hC
  refine va_calli (va_runS (As := As) (rest := rest) ⟨hx, hb, hml, hown, hts⟩ (hM H.size) ⟨callB_of n hts (zgood L.2.2.2.1) rfl rfl rfl (hts _ L.2.2.1) (hts _ L.1) L.2.2.2.2.1 (zroom hd L.2.2.2.2.2), hts _ L.2.1⟩ (z_pre hK hT isC hnC hC) rfl hlen hsz hst (lv_room hw8) hdg hf) hT.2.2 (fun q _ h => hFc q h) hFc (fun r9 u t H1 locs1 ht hvm hp hB hz1 hk1 hS => ?_)
  obtain rfl : r9 = r := hp
  obtain ⟨qs, hP1, hD1⟩ := hB
  rw [ht] at hP1
  obtain ⟨hP9, hD9⟩ := va_join (wr := isR.filterMap (fun i => ws[i]?)) (w1 := wc' qs) hT.1 hT.2.1 isC isR hC (zfm hR) hnR (zdis hdis) hk1 hFc hP1 hD1
  exact kk qs H1 locs1 (by rw [← hw2 qs]; exact ⟨hP9, hD9, hS⟩)
theorem z_cSJ {r : Int64} (hx : p.tables.exec = Jvm.exec) (hb : c.code = cc) (hml : c.maxLocals = nL) (hown : s.vm.findClass own = some m.cls) (hts : ∀ w ∈ lwg, w.before args s = true) (hK : zK G cy s) (hA : ∀ q, H0.size ≤ q → A q) (hT : zT G A H0 H locs ws) (L : zLS own idx y yc yn ret n) (hM : zJ l G cy y yc yn ret d mc ms (As) wc r wc') (isC isR : List Nat) (hnC : va_nd isC = true) (hnR : va_nd isR = true) (hdis : isR.all (fun i => !isC.contains i) = true) (hC : isC.map (fun i => ws[i]?) = wc.map some) (hR : isR.all (fun i => decide (i < ws.length)) = true) (hd : d < D) (hlen : As.length = n) (hsz : ls.size = nL) (hst : st0 = As.reverse ++ rest) (hw8 : (rest.map fun v => v.category).sum ≤ 8) (hdg : decode cc pc = .ok (.invokestatic idx, 3)) (hf : cells + mc ≤ (zR D MC MS).cells ∧ slots + ms ≤ (zR D MC MS).slots) (ws2 : (Nat → Nat → Nat) → va_W) (hw2 : ∀ qs, isR.filterMap (fun i => ws[i]?) ++ wc' qs = ws2 qs)
    (kk : ∀ (qs : Nat → Nat → Nat) (H1 : Heap) (locs1 : List Loc), zT G A H0 H1 locs1 (ws2 qs) → W p l e (zR D MC MS) s m args below meth c H1 locs1 (cells + mc) (slots + ms) Q (F0 m (pc + 3) ls (.long r :: rest))) : W p l e (zR D MC MS) s m args below meth c H locs cells slots Q (F0 m pc ls st0) := by
  have hFc : ∀ q, va_A wc H.size q → A q := va_free hT.2.1 hT.2.2 hA isC hC
  refine va_calll (va_runS (As := As) (rest := rest) ⟨hx, hb, hml, hown, hts⟩ (hM H.size) ⟨callB_of n hts (zgood L.2.2.2.1) rfl rfl rfl (hts _ L.2.2.1) (hts _ L.1) L.2.2.2.2.1 (zroom hd L.2.2.2.2.2), hts _ L.2.1⟩ (z_pre hK hT isC hnC hC) rfl hlen hsz hst (lv_room hw8) hdg hf) hT.2.2 (fun q _ h => hFc q h) hFc (fun r9 u t H1 locs1 ht hvm hp hB hz1 hk1 hS => ?_)
  obtain rfl : r9 = r := hp
  obtain ⟨qs, hP1, hD1⟩ := hB
  rw [ht] at hP1
  obtain ⟨hP9, hD9⟩ := va_join (wr := isR.filterMap (fun i => ws[i]?)) (w1 := wc' qs) hT.1 hT.2.1 isC isR hC (zfm hR) hnR (zdis hdis) hk1 hFc hP1 hD1
  exact kk qs H1 locs1 (by rw [← hw2 qs]; exact ⟨hP9, hD9, hS⟩)
theorem z_cSV (hx : p.tables.exec = Jvm.exec) (hb : c.code = cc) (hml : c.maxLocals = nL) (hown : s.vm.findClass own = some m.cls) (hts : ∀ w ∈ lwg, w.before args s = true) (hK : zK G cy s) (hA : ∀ q, H0.size ≤ q → A q) (hT : zT G A H0 H locs ws) (L : zLS own idx y yc yn ret n) (hM : zV l G cy y yc yn ret d mc ms (As) wc wc') (isC isR : List Nat) (hnC : va_nd isC = true) (hnR : va_nd isR = true) (hdis : isR.all (fun i => !isC.contains i) = true) (hC : isC.map (fun i => ws[i]?) = wc.map some) (hR : isR.all (fun i => decide (i < ws.length)) = true) (hd : d < D) (hlen : As.length = n) (hsz : ls.size = nL) (hst : st0 = As.reverse ++ rest) (hw8 : (rest.map fun v => v.category).sum ≤ 8) (hdg : decode cc pc = .ok (.invokestatic idx, 3)) (hf : cells + mc ≤ (zR D MC MS).cells ∧ slots + ms ≤ (zR D MC MS).slots) (ws2 : (Nat → Nat → Nat) → va_W) (hw2 : ∀ qs, isR.filterMap (fun i => ws[i]?) ++ wc' qs = ws2 qs)
    (kk : ∀ (qs : Nat → Nat → Nat) (H1 : Heap) (locs1 : List Loc), zT G A H0 H1 locs1 (ws2 qs) → W p l e (zR D MC MS) s m args below meth c H1 locs1 (cells + mc) (slots + ms) Q (F0 m (pc + 3) ls (rest))) : W p l e (zR D MC MS) s m args below meth c H locs cells slots Q (F0 m pc ls st0) := by
  have hFc : ∀ q, va_A wc H.size q → A q := va_free hT.2.1 hT.2.2 hA isC hC
  refine va_callv (va_runS (As := As) (rest := rest) ⟨hx, hb, hml, hown, hts⟩ (hM H.size) ⟨callB_of n hts (zgood L.2.2.2.1) rfl rfl rfl (hts _ L.2.2.1) (hts _ L.1) L.2.2.2.2.1 (zroom hd L.2.2.2.2.2), hts _ L.2.1⟩ (z_pre hK hT isC hnC hC) rfl hlen hsz hst (lv_room hw8) hdg hf) hT.2.2 (fun q _ h => hFc q h) hFc (fun u t H1 locs1 ht hvm hp hB hz1 hk1 hS => ?_)
  obtain ⟨qs, hP1, hD1⟩ := hB
  rw [ht] at hP1
  obtain ⟨hP9, hD9⟩ := va_join (wr := isR.filterMap (fun i => ws[i]?)) (w1 := wc' qs) hT.1 hT.2.1 isC isR hC (zfm hR) hnR (zdis hdis) hk1 hFc hP1 hD1
  exact kk qs H1 locs1 (by rw [← hw2 qs]; exact ⟨hP9, hD9, hS⟩)
theorem z_cIV (hx : p.tables.exec = Jvm.exec) (hb : c.code = cc) (hml : c.maxLocals = nL) (hown : s.vm.findClass own = some m.cls) (hts : ∀ w ∈ lwg, w.before args s = true) (hK : zK G cy s) (hA : ∀ q, H0.size ≤ q → A q) (hT : zT G A H0 H locs ws) (L : zLI own idx y yc yn none n) (hM : zV l G cy y yc yn none d mc ms (.ref b :: As) wc wc') (isC isR : List Nat) (hnC : va_nd isC = true) (hnR : va_nd isR = true) (hdis : isR.all (fun i => !isC.contains i) = true) (hC : isC.map (fun i => ws[i]?) = wc.map some) (hR : isR.all (fun i => decide (i < ws.length)) = true) (hd : d < D) (hlen : As.length = n) (hsz : ls.size = nL) (hst : st0 = As.reverse ++ .ref b :: rest) (hw8 : (rest.map fun v => v.category).sum ≤ 8) (hdg : decode cc pc = .ok (.invokespecial idx, 3)) (hf : cells + mc ≤ (zR D MC MS).cells ∧ slots + ms ≤ (zR D MC MS).slots) (ws2 : (Nat → Nat → Nat) → va_W) (hw2 : ∀ qs, isR.filterMap (fun i => ws[i]?) ++ wc' qs = ws2 qs)
    (kk : ∀ (qs : Nat → Nat → Nat) (H1 : Heap) (locs1 : List Loc), zT G A H0 H1 locs1 (ws2 qs) → W p l e (zR D MC MS) s m args below meth c H1 locs1 (cells + mc) (slots + ms) Q (F0 m (pc + 3) ls (rest))) : W p l e (zR D MC MS) s m args below meth c H locs cells slots Q (F0 m pc ls st0) := by
  have hFc : ∀ q, va_A wc H.size q → A q := va_free hT.2.1 hT.2.2 hA isC hC
  refine va_callv (va_runI (As := As) (rest := rest) ⟨hx, hb, hml, hown, hts⟩ (hM H.size) ⟨callB_of n hts (zgood L.2.2.2.2.1) rfl rfl rfl (hts _ L.2.2.2.1) (hts _ L.1) L.2.2.2.2.2.1 (zroom hd L.2.2.2.2.2.2), L.2.2.1, hts _ L.2.1⟩ (z_pre hK hT isC hnC hC) rfl hlen hsz hst (lv_room hw8) hdg hf) hT.2.2 (fun q _ h => hFc q h) hFc (fun u t H1 locs1 ht hvm hp hB hz1 hk1 hS => ?_)
  obtain ⟨qs, hP1, hD1⟩ := hB
  rw [ht] at hP1
  obtain ⟨hP9, hD9⟩ := va_join (wr := isR.filterMap (fun i => ws[i]?)) (w1 := wc' qs) hT.1 hT.2.1 isC isR hC (zfm hR) hnR (zdis hdis) hk1 hFc hP1 hD1
  exact kk qs H1 locs1 (by rw [← hw2 qs]; exact ⟨hP9, hD9, hS⟩)
theorem z_cSNI {r : Int32} (hx : p.tables.exec = Jvm.exec) (hb : c.code = cc) (hml : c.maxLocals = nL) (hown : s.vm.findClass own = some m.cls) (hts : ∀ w ∈ lwg, w.before args s = true) (hK : zK G cy s) (hA : ∀ q, H0.size ≤ q → A q) (hT : zT G A H0 H locs ws) (L : zLSN own idx y yc yn ret n) (hM : zI l G cy y yc yn ret d mc ms (As) wc r wc') (isC isR : List Nat) (hnC : va_nd isC = true) (hnR : va_nd isR = true) (hdis : isR.all (fun i => !isC.contains i) = true) (hC : isC.map (fun i => ws[i]?) = wc.map some) (hR : isR.all (fun i => decide (i < ws.length)) = true) (hd : d < D) (hlen : As.length = n) (hsz : ls.size = nL) (hst : st0 = As.reverse ++ rest) (hw8 : (rest.map fun v => v.category).sum ≤ 8) (hdg : decode cc pc = .ok (.invokestatic idx, 3)) (hf : cells + mc ≤ (zR D MC MS).cells ∧ slots + ms ≤ (zR D MC MS).slots) (ws2 : (Nat → Nat → Nat) → va_W) (hw2 : ∀ qs, isR.filterMap (fun i => ws[i]?) ++ wc' qs = ws2 qs)
    (kk : ∀ (qs : Nat → Nat → Nat) (H1 : Heap) (locs1 : List Loc), zT G A H0 H1 locs1 (ws2 qs) → W p l e (zR D MC MS) s m args below meth c H1 locs1 (cells + mc) (slots + ms) Q (F0 m (pc + 3) ls (.int r :: rest))) : W p l e (zR D MC MS) s m args below meth c H locs cells slots Q (F0 m pc ls st0) := by
  have hFc : ∀ q, va_A wc H.size q → A q := va_free hT.2.1 hT.2.2 hA isC hC
  refine va_calli (va_runSN (As := As) (rest := rest) (host := "CostBench") ⟨hx, hb, hml, hown, hts⟩ (hM H.size) ⟨va_cnB n hts (zgood L.2.2.2.1) rfl rfl rfl (hK.2.1 _ L.1) (hts _ L.2.2.1) L.2.2.2.2.1 (zroom hd L.2.2.2.2.2), hts _ L.2.1, trivial⟩ (z_pre hK hT isC hnC hC) rfl hlen hsz hst (lv_room hw8) hdg hf) hT.2.2 (fun q _ h => hFc q h) hFc (fun r9 u t H1 locs1 ht hvm hp hB hz1 hk1 hS => ?_)
  obtain rfl : r9 = r := hp
  obtain ⟨qs, hP1, hD1⟩ := hB
  rw [ht] at hP1
  obtain ⟨hP9, hD9⟩ := va_join (wr := isR.filterMap (fun i => ws[i]?)) (w1 := wc' qs) hT.1 hT.2.1 isC isR hC (zfm hR) hnR (zdis hdis) hk1 hFc hP1 hD1
  exact kk qs H1 locs1 (by rw [← hw2 qs]; exact ⟨hP9, hD9, hS⟩)
theorem z_cSNJ {r : Int64} (hx : p.tables.exec = Jvm.exec) (hb : c.code = cc) (hml : c.maxLocals = nL) (hown : s.vm.findClass own = some m.cls) (hts : ∀ w ∈ lwg, w.before args s = true) (hK : zK G cy s) (hA : ∀ q, H0.size ≤ q → A q) (hT : zT G A H0 H locs ws) (L : zLSN own idx y yc yn ret n) (hM : zJ l G cy y yc yn ret d mc ms (As) wc r wc') (isC isR : List Nat) (hnC : va_nd isC = true) (hnR : va_nd isR = true) (hdis : isR.all (fun i => !isC.contains i) = true) (hC : isC.map (fun i => ws[i]?) = wc.map some) (hR : isR.all (fun i => decide (i < ws.length)) = true) (hd : d < D) (hlen : As.length = n) (hsz : ls.size = nL) (hst : st0 = As.reverse ++ rest) (hw8 : (rest.map fun v => v.category).sum ≤ 8) (hdg : decode cc pc = .ok (.invokestatic idx, 3)) (hf : cells + mc ≤ (zR D MC MS).cells ∧ slots + ms ≤ (zR D MC MS).slots) (ws2 : (Nat → Nat → Nat) → va_W) (hw2 : ∀ qs, isR.filterMap (fun i => ws[i]?) ++ wc' qs = ws2 qs)
    (kk : ∀ (qs : Nat → Nat → Nat) (H1 : Heap) (locs1 : List Loc), zT G A H0 H1 locs1 (ws2 qs) → W p l e (zR D MC MS) s m args below meth c H1 locs1 (cells + mc) (slots + ms) Q (F0 m (pc + 3) ls (.long r :: rest))) : W p l e (zR D MC MS) s m args below meth c H locs cells slots Q (F0 m pc ls st0) := by
  have hFc : ∀ q, va_A wc H.size q → A q := va_free hT.2.1 hT.2.2 hA isC hC
  refine va_calll (va_runSN (As := As) (rest := rest) (host := "CostBench") ⟨hx, hb, hml, hown, hts⟩ (hM H.size) ⟨va_cnB n hts (zgood L.2.2.2.1) rfl rfl rfl (hK.2.1 _ L.1) (hts _ L.2.2.1) L.2.2.2.2.1 (zroom hd L.2.2.2.2.2), hts _ L.2.1, trivial⟩ (z_pre hK hT isC hnC hC) rfl hlen hsz hst (lv_room hw8) hdg hf) hT.2.2 (fun q _ h => hFc q h) hFc (fun r9 u t H1 locs1 ht hvm hp hB hz1 hk1 hS => ?_)
  obtain rfl : r9 = r := hp
  obtain ⟨qs, hP1, hD1⟩ := hB
  rw [ht] at hP1
  obtain ⟨hP9, hD9⟩ := va_join (wr := isR.filterMap (fun i => ws[i]?)) (w1 := wc' qs) hT.1 hT.2.1 isC isR hC (zfm hR) hnR (zdis hdis) hk1 hFc hP1 hD1
  exact kk qs H1 locs1 (by rw [← hw2 qs]; exact ⟨hP9, hD9, hS⟩)
theorem z_cSNV (hx : p.tables.exec = Jvm.exec) (hb : c.code = cc) (hml : c.maxLocals = nL) (hown : s.vm.findClass own = some m.cls) (hts : ∀ w ∈ lwg, w.before args s = true) (hK : zK G cy s) (hA : ∀ q, H0.size ≤ q → A q) (hT : zT G A H0 H locs ws) (L : zLSN own idx y yc yn ret n) (hM : zV l G cy y yc yn ret d mc ms (As) wc wc') (isC isR : List Nat) (hnC : va_nd isC = true) (hnR : va_nd isR = true) (hdis : isR.all (fun i => !isC.contains i) = true) (hC : isC.map (fun i => ws[i]?) = wc.map some) (hR : isR.all (fun i => decide (i < ws.length)) = true) (hd : d < D) (hlen : As.length = n) (hsz : ls.size = nL) (hst : st0 = As.reverse ++ rest) (hw8 : (rest.map fun v => v.category).sum ≤ 8) (hdg : decode cc pc = .ok (.invokestatic idx, 3)) (hf : cells + mc ≤ (zR D MC MS).cells ∧ slots + ms ≤ (zR D MC MS).slots) (ws2 : (Nat → Nat → Nat) → va_W) (hw2 : ∀ qs, isR.filterMap (fun i => ws[i]?) ++ wc' qs = ws2 qs)
    (kk : ∀ (qs : Nat → Nat → Nat) (H1 : Heap) (locs1 : List Loc), zT G A H0 H1 locs1 (ws2 qs) → W p l e (zR D MC MS) s m args below meth c H1 locs1 (cells + mc) (slots + ms) Q (F0 m (pc + 3) ls (rest))) : W p l e (zR D MC MS) s m args below meth c H locs cells slots Q (F0 m pc ls st0) := by
  have hFc : ∀ q, va_A wc H.size q → A q := va_free hT.2.1 hT.2.2 hA isC hC
  refine va_callv (va_runSN (As := As) (rest := rest) (host := "CostBench") ⟨hx, hb, hml, hown, hts⟩ (hM H.size) ⟨va_cnB n hts (zgood L.2.2.2.1) rfl rfl rfl (hK.2.1 _ L.1) (hts _ L.2.2.1) L.2.2.2.2.1 (zroom hd L.2.2.2.2.2), hts _ L.2.1, trivial⟩ (z_pre hK hT isC hnC hC) rfl hlen hsz hst (lv_room hw8) hdg hf) hT.2.2 (fun q _ h => hFc q h) hFc (fun u t H1 locs1 ht hvm hp hB hz1 hk1 hS => ?_)
  obtain ⟨qs, hP1, hD1⟩ := hB
  rw [ht] at hP1
  obtain ⟨hP9, hD9⟩ := va_join (wr := isR.filterMap (fun i => ws[i]?)) (w1 := wc' qs) hT.1 hT.2.1 isC isR hC (zfm hR) hnR (zdis hdis) hk1 hFc hP1 hD1
  exact kk qs H1 locs1 (by rw [← hw2 qs]; exact ⟨hP9, hD9, hS⟩)
theorem z_cINV (hx : p.tables.exec = Jvm.exec) (hb : c.code = cc) (hml : c.maxLocals = nL) (hown : s.vm.findClass own = some m.cls) (hts : ∀ w ∈ lwg, w.before args s = true) (hK : zK G cy s) (hA : ∀ q, H0.size ≤ q → A q) (hT : zT G A H0 H locs ws) (L : zLIN own idx y yc yn none n) (hM : zV l G cy y yc yn none d mc ms (.ref b :: As) wc wc') (isC isR : List Nat) (hnC : va_nd isC = true) (hnR : va_nd isR = true) (hdis : isR.all (fun i => !isC.contains i) = true) (hC : isC.map (fun i => ws[i]?) = wc.map some) (hR : isR.all (fun i => decide (i < ws.length)) = true) (hd : d < D) (hlen : As.length = n) (hsz : ls.size = nL) (hst : st0 = As.reverse ++ .ref b :: rest) (hw8 : (rest.map fun v => v.category).sum ≤ 8) (hdg : decode cc pc = .ok (.invokespecial idx, 3)) (hf : cells + mc ≤ (zR D MC MS).cells ∧ slots + ms ≤ (zR D MC MS).slots) (ws2 : (Nat → Nat → Nat) → va_W) (hw2 : ∀ qs, isR.filterMap (fun i => ws[i]?) ++ wc' qs = ws2 qs)
    (kk : ∀ (qs : Nat → Nat → Nat) (H1 : Heap) (locs1 : List Loc), zT G A H0 H1 locs1 (ws2 qs) → W p l e (zR D MC MS) s m args below meth c H1 locs1 (cells + mc) (slots + ms) Q (F0 m (pc + 3) ls (rest))) : W p l e (zR D MC MS) s m args below meth c H locs cells slots Q (F0 m pc ls st0) := by
  have hFc : ∀ q, va_A wc H.size q → A q := va_free hT.2.1 hT.2.2 hA isC hC
  refine va_callv (va_runIN (As := As) (rest := rest) (host := "CostBench") ⟨hx, hb, hml, hown, hts⟩ (hM H.size) ⟨va_cnB n hts (zgood L.2.2.2.2.1) rfl rfl rfl (hK.2.1 _ L.1) (hts _ L.2.2.2.1) L.2.2.2.2.2.1 (zroom hd L.2.2.2.2.2.2), L.2.2.1, hts _ L.2.1⟩ (z_pre hK hT isC hnC hC) rfl hlen hsz hst (lv_room hw8) hdg hf) hT.2.2 (fun q _ h => hFc q h) hFc (fun u t H1 locs1 ht hvm hp hB hz1 hk1 hS => ?_)
  obtain ⟨qs, hP1, hD1⟩ := hB
  rw [ht] at hP1
  obtain ⟨hP9, hD9⟩ := va_join (wr := isR.filterMap (fun i => ws[i]?)) (w1 := wc' qs) hT.1 hT.2.1 isC isR hC (zfm hR) hnR (zdis hdis) hk1 hFc hP1 hD1
  exact kk qs H1 locs1 (by rw [← hw2 qs]; exact ⟨hP9, hD9, hS⟩)
end ZC
