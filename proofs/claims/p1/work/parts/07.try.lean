theorem w1_64 : (Cond.fieldLink "CostBench$Machine" (66 : Nat) "CostBench$Machine" "arcs" "I") ∈ lwg := lwg_t (tb1 64 rfl) rfl
theorem w1_50 : (Cond.fieldLink "CostBench$Machine" (9 : Nat) "CostBench$Machine" "states" "I") ∈ lwg := lwg_t (tb1 50 rfl) rfl
theorem w1_74 : (Cond.fieldLink "CostBench$Machine" (15 : Nat) "CostBench$Machine" "ending" "[I") ∈ lwg := lwg_t (tb1 74 rfl) rfl
theorem w4_49 : (Cond.constant "CostBench$Machine" (52 : Nat) (1000000 : Int32)) ∈ lwg := lwg_t (tb4 49 rfl) rfl
theorem w1_80 : (Cond.fieldLink "CostBench$Machine" (19 : Nat) "CostBench$Machine" "from" "[I") ∈ lwg := lwg_t (tb1 80 rfl) rfl
theorem w1_115 : (Cond.fieldLink "CostBench$Machine" (34 : Nat) "CostBench$Machine" "leavingAt" "[I") ∈ lwg := lwg_t (tb1 115 rfl) rfl
theorem w1_121 : (Cond.fieldLink "CostBench$Machine" (37 : Nat) "CostBench$Machine" "leaving" "[I") ∈ lwg := lwg_t (tb1 121 rfl) rfl
theorem w4_108 : (Cond.code ⟨"CostBench$Machine", "sortBy", "([I[I[I)V"⟩ prog_5_method_12_code (7 : Nat) (Option.none : Option FieldType)) ∈ lwg := lwg_t (tb4 108 rfl) rfl
theorem w1_2 : (Cond.initialized "CostBench$Machine") ∈ lwg := lwg_t (tb1 2 rfl) rfl
theorem w4_105 : (Cond.methodLink "CostBench$Machine" (86 : Nat) ⟨"CostBench$Machine", "sortBy", "([I[I[I)V"⟩) ∈ lwg := lwg_t (tb4 105 rfl) rfl
theorem w4_107 : (Cond.instanceMethod ⟨"CostBench$Machine", "sortBy", "([I[I[I)V"⟩) ∈ lwg := lwg_t (tb4 107 rfl) rfl
theorem ws2_3 : Cond.selects "CostBench$Machine" ⟨"CostBench$Machine", "sortBy", "([I[I[I)V"⟩ ⟨"CostBench$Machine", "sortBy", "([I[I[I)V"⟩ ∈ lwg := lwg_s (List.mem_map.mpr ⟨(⟨"CostBench$Machine", "sortBy", "([I[I[I)V"⟩, 14), List.mem_append_right _ (List.mem_append_left _ (List.mem_of_getElem? (i := 3) rfl)), rfl⟩) rfl
theorem w1_86 : (Cond.fieldLink "CostBench$Machine" (22 : Nat) "CostBench$Machine" "to" "[I") ∈ lwg := lwg_t (tb1 86 rfl) rfl
theorem w1_127 : (Cond.fieldLink "CostBench$Machine" (40 : Nat) "CostBench$Machine" "comingAt" "[I") ∈ lwg := lwg_t (tb1 127 rfl) rfl
theorem w1_129 : (Cond.fieldLink "CostBench$Machine" (43 : Nat) "CostBench$Machine" "coming" "[I") ∈ lwg := lwg_t (tb1 129 rfl) rfl
theorem w1_58 : (Cond.fieldLink "CostBench$Machine" (63 : Nat) "CostBench$Machine" "startCost" "I") ∈ lwg := lwg_t (tb1 58 rfl) rfl
theorem w1_70 : (Cond.fieldLink "CostBench$Machine" (53 : Nat) "CostBench$Machine" "tooLarge" "Z") ∈ lwg := lwg_t (tb1 70 rfl) rfl
theorem w3_83 : (Cond.methodLink "CostBench$Machine" (80 : Nat) ⟨"java/lang/System", "arraycopy", "(Ljava/lang/Object;ILjava/lang/Object;II)V"⟩) ∈ lwg := lwg_t (tb3 83 rfl) rfl
theorem w1_94 : (Cond.fieldLink "CostBench$Machine" (25 : Nat) "CostBench$Machine" "in" "[I") ∈ lwg := lwg_t (tb1 94 rfl) rfl
theorem w1_102 : (Cond.fieldLink "CostBench$Machine" (28 : Nat) "CostBench$Machine" "out" "[I") ∈ lwg := lwg_t (tb1 102 rfl) rfl
theorem w1_107 : (Cond.fieldLink "CostBench$Machine" (31 : Nat) "CostBench$Machine" "cost" "[I") ∈ lwg := lwg_t (tb1 107 rfl) rfl
theorem w1_46 : (Cond.methodLink "CostBench$Machine" (3 : Nat) ⟨"java/lang/Object", "<init>", "()V"⟩) ∈ lwg := lwg_t (tb1 46 rfl) rfl
theorem w1_38 : (Cond.instanceMethod ⟨"java/lang/Object", "<init>", "()V"⟩) ∈ lwg := lwg_t (tb1 38 rfl) rfl
theorem w1_39 : (Cond.code ⟨"java/lang/Object", "<init>", "()V"⟩ object_method_1_code (1 : Nat) (Option.none : Option FieldType)) ∈ lwg := lwg_t (tb1 39 rfl) rfl
theorem w1_49 : (Cond.code ⟨"java/util/Arrays", "fill", "([II)V"⟩ prog_36_method_103_code (4 : Nat) (Option.none : Option FieldType)) ∈ lwg := lwg_t (tb1 49 rfl) rfl
theorem w1_47 : (Cond.methodLink "CostBench$Machine" (46 : Nat) ⟨"java/util/Arrays", "fill", "([II)V"⟩) ∈ lwg := lwg_t (tb1 47 rfl) rfl
theorem w1_48 : (Cond.static ⟨"java/util/Arrays", "fill", "([II)V"⟩) ∈ lwg := lwg_t (tb1 48 rfl) rfl
theorem lkV_RX3_86 : zLV "CostBench$Machine" 86 yX3_sortBy "CostBench$Machine" cX3_sortBy 7 none 3 := ⟨w4_105, w4_107, ws2_3, w1_2, w4_108, ⟨by decide +kernel, by decide +kernel, by decide +kernel⟩, by decide⟩
theorem lkS_RX3_46 : zLS "CostBench$Machine" 46 yJ7_fill_53178 cJ7_fill_53178 4 none 2 := ⟨w1_47, w1_48, w1_3, w1_49, ⟨by decide +kernel, by decide +kernel, by decide +kernel⟩, by decide⟩
theorem dX3_isAcceptor_0 : decode cX3_isAcceptor 0 = .ok (.iconst 0, 1) := by decide +kernel
theorem dX3_isAcceptor_1 : decode cX3_isAcceptor 1 = .ok (.istore_n 1, 1) := by decide +kernel
theorem dX3_isAcceptor_2 : decode cX3_isAcceptor 2 = .ok (.iload_n 1, 1) := by decide +kernel
theorem dX3_isAcceptor_3 : decode cX3_isAcceptor 3 = .ok (.aload_n 0, 1) := by decide +kernel
theorem dX3_isAcceptor_4 : decode cX3_isAcceptor 4 = .ok (.getfield 66, 3) := by decide +kernel
theorem dX3_isAcceptor_7 : decode cX3_isAcceptor 7 = .ok (.if_icmp .ge 26, 3) := by decide +kernel
theorem dX3_isAcceptor_33 : decode cX3_isAcceptor 33 = .ok (.iconst 1, 1) := by decide +kernel
theorem dX3_isAcceptor_34 : decode cX3_isAcceptor 34 = .ok (.ireturn, 1) := by decide +kernel
theorem dX3_isOneWay_0 : decode cX3_isOneWay 0 = .ok (.iconst 0, 1) := by decide +kernel
theorem dX3_isOneWay_1 : decode cX3_isOneWay 1 = .ok (.istore_n 1, 1) := by decide +kernel
theorem dX3_isOneWay_2 : decode cX3_isOneWay 2 = .ok (.iload_n 1, 1) := by decide +kernel
theorem dX3_isOneWay_3 : decode cX3_isOneWay 3 = .ok (.aload_n 0, 1) := by decide +kernel
theorem dX3_isOneWay_4 : decode cX3_isOneWay 4 = .ok (.getfield 66, 3) := by decide +kernel
theorem dX3_isOneWay_7 : decode cX3_isOneWay 7 = .ok (.if_icmp .ge 65, 3) := by decide +kernel
theorem dX3_isOneWay_72 : decode cX3_isOneWay 72 = .ok (.iconst 1, 1) := by decide +kernel
theorem dX3_isOneWay_73 : decode cX3_isOneWay 73 = .ok (.ireturn, 1) := by decide +kernel
theorem dX3_countEndings_0 : decode cX3_countEndings 0 = .ok (.iconst 0, 1) := by decide +kernel
theorem dX3_countEndings_1 : decode cX3_countEndings 1 = .ok (.istore_n 1, 1) := by decide +kernel
theorem dX3_countEndings_2 : decode cX3_countEndings 2 = .ok (.iconst 0, 1) := by decide +kernel
theorem dX3_countEndings_3 : decode cX3_countEndings 3 = .ok (.istore_n 2, 1) := by decide +kernel
theorem dX3_countEndings_4 : decode cX3_countEndings 4 = .ok (.iload_n 2, 1) := by decide +kernel
theorem dX3_countEndings_5 : decode cX3_countEndings 5 = .ok (.aload_n 0, 1) := by decide +kernel
theorem dX3_countEndings_6 : decode cX3_countEndings 6 = .ok (.getfield 9, 3) := by decide +kernel
theorem dX3_countEndings_9 : decode cX3_countEndings 9 = .ok (.if_icmp .ge 27, 3) := by decide +kernel
theorem dX3_countEndings_12 : decode cX3_countEndings 12 = .ok (.iload_n 1, 1) := by decide +kernel
theorem dX3_countEndings_13 : decode cX3_countEndings 13 = .ok (.aload_n 0, 1) := by decide +kernel
theorem dX3_countEndings_14 : decode cX3_countEndings 14 = .ok (.getfield 15, 3) := by decide +kernel
theorem dX3_countEndings_17 : decode cX3_countEndings 17 = .ok (.iload_n 2, 1) := by decide +kernel
theorem dX3_countEndings_18 : decode cX3_countEndings 18 = .ok (.iaload, 1) := by decide +kernel
theorem dX3_countEndings_19 : decode cX3_countEndings 19 = .ok (.iconst (-1), 1) := by decide +kernel
theorem dX3_countEndings_20 : decode cX3_countEndings 20 = .ok (.if_icmp .ne 7, 3) := by decide +kernel
theorem dX3_countEndings_23 : decode cX3_countEndings 23 = .ok (.iconst 0, 1) := by decide +kernel
theorem dX3_countEndings_24 : decode cX3_countEndings 24 = .ok (.goto 4, 3) := by decide +kernel
theorem dX3_countEndings_28 : decode cX3_countEndings 28 = .ok (.iadd, 1) := by decide +kernel
theorem dX3_countEndings_29 : decode cX3_countEndings 29 = .ok (.istore_n 1, 1) := by decide +kernel
theorem dX3_countEndings_30 : decode cX3_countEndings 30 = .ok (.iinc 2 1, 3) := by decide +kernel
theorem dX3_countEndings_33 : decode cX3_countEndings 33 = .ok (.goto (-29), 3) := by decide +kernel
theorem dX3_countEndings_36 : decode cX3_countEndings 36 = .ok (.iload_n 1, 1) := by decide +kernel
theorem dX3_countEndings_37 : decode cX3_countEndings 37 = .ok (.ireturn, 1) := by decide +kernel
theorem dX3_countSilent_0 : decode cX3_countSilent 0 = .ok (.iconst 0, 1) := by decide +kernel
theorem dX3_countSilent_1 : decode cX3_countSilent 1 = .ok (.istore_n 1, 1) := by decide +kernel
theorem dX3_countSilent_2 : decode cX3_countSilent 2 = .ok (.iconst 0, 1) := by decide +kernel
theorem dX3_countSilent_3 : decode cX3_countSilent 3 = .ok (.istore_n 2, 1) := by decide +kernel
theorem dX3_countSilent_4 : decode cX3_countSilent 4 = .ok (.iload_n 2, 1) := by decide +kernel
theorem dX3_countSilent_5 : decode cX3_countSilent 5 = .ok (.aload_n 0, 1) := by decide +kernel
theorem dX3_countSilent_6 : decode cX3_countSilent 6 = .ok (.getfield 66, 3) := by decide +kernel
theorem dX3_countSilent_9 : decode cX3_countSilent 9 = .ok (.if_icmp .ge 35, 3) := by decide +kernel
theorem dX3_countSilent_44 : decode cX3_countSilent 44 = .ok (.iload_n 1, 1) := by decide +kernel
theorem dX3_countSilent_45 : decode cX3_countSilent 45 = .ok (.ireturn, 1) := by decide +kernel
theorem dX3_setEnding_0 : decode cX3_setEnding 0 = .ok (.iload_n 1, 1) := by decide +kernel
theorem dX3_setEnding_1 : decode cX3_setEnding 1 = .ok (.ifCond .lt 17, 3) := by decide +kernel
theorem dX3_setEnding_4 : decode cX3_setEnding 4 = .ok (.iload_n 1, 1) := by decide +kernel
theorem dX3_setEnding_5 : decode cX3_setEnding 5 = .ok (.aload_n 0, 1) := by decide +kernel
theorem dX3_setEnding_6 : decode cX3_setEnding 6 = .ok (.getfield 9, 3) := by decide +kernel
theorem dX3_setEnding_9 : decode cX3_setEnding 9 = .ok (.if_icmp .ge 9, 3) := by decide +kernel
theorem dX3_setEnding_12 : decode cX3_setEnding 12 = .ok (.iload_n 2, 1) := by decide +kernel
theorem dX3_setEnding_13 : decode cX3_setEnding 13 = .ok (.ldc 52, 2) := by decide +kernel
theorem dX3_setEnding_15 : decode cX3_setEnding 15 = .ok (.if_icmp .le 9, 3) := by decide +kernel
theorem dX3_setEnding_24 : decode cX3_setEnding 24 = .ok (.aload_n 0, 1) := by decide +kernel
theorem dX3_setEnding_25 : decode cX3_setEnding 25 = .ok (.getfield 15, 3) := by decide +kernel
theorem dX3_setEnding_28 : decode cX3_setEnding 28 = .ok (.iload_n 1, 1) := by decide +kernel
theorem dX3_setEnding_29 : decode cX3_setEnding 29 = .ok (.iload_n 2, 1) := by decide +kernel
theorem dX3_setEnding_30 : decode cX3_setEnding 30 = .ok (.iastore, 1) := by decide +kernel
theorem dX3_setEnding_31 : decode cX3_setEnding 31 = .ok (.return_, 1) := by decide +kernel
theorem dX3_addState_0 : decode cX3_addState 0 = .ok (.aload_n 0, 1) := by decide +kernel
theorem dX3_addState_1 : decode cX3_addState 1 = .ok (.getfield 9, 3) := by decide +kernel
theorem dX3_addState_4 : decode cX3_addState 4 = .ok (.bipush 40, 2) := by decide +kernel
theorem dX3_addState_6 : decode cX3_addState 6 = .ok (.if_icmp .lt 10, 3) := by decide +kernel
theorem dX3_addState_16 : decode cX3_addState 16 = .ok (.aload_n 0, 1) := by decide +kernel
theorem dX3_addState_17 : decode cX3_addState 17 = .ok (.dup, 1) := by decide +kernel
theorem dX3_addState_18 : decode cX3_addState 18 = .ok (.getfield 9, 3) := by decide +kernel
theorem dX3_addState_21 : decode cX3_addState 21 = .ok (.iconst 1, 1) := by decide +kernel
theorem dX3_addState_22 : decode cX3_addState 22 = .ok (.iadd, 1) := by decide +kernel
theorem dX3_addState_23 : decode cX3_addState 23 = .ok (.putfield 9, 3) := by decide +kernel
theorem dX3_addState_26 : decode cX3_addState 26 = .ok (.aload_n 0, 1) := by decide +kernel
theorem dX3_addState_27 : decode cX3_addState 27 = .ok (.getfield 9, 3) := by decide +kernel
theorem dX3_addState_30 : decode cX3_addState 30 = .ok (.iconst 1, 1) := by decide +kernel
theorem dX3_addState_31 : decode cX3_addState 31 = .ok (.isub, 1) := by decide +kernel
theorem dX3_addState_32 : decode cX3_addState 32 = .ok (.ireturn, 1) := by decide +kernel
theorem dX3_sortBy_0 : decode cX3_sortBy 0 = .ok (.iconst 0, 1) := by decide +kernel
theorem dX3_sortBy_1 : decode cX3_sortBy 1 = .ok (.istore 4, 2) := by decide +kernel
theorem dX3_sortBy_3 : decode cX3_sortBy 3 = .ok (.iconst 0, 1) := by decide +kernel
theorem dX3_sortBy_4 : decode cX3_sortBy 4 = .ok (.istore 5, 2) := by decide +kernel
theorem dX3_sortBy_6 : decode cX3_sortBy 6 = .ok (.iload 5, 2) := by decide +kernel
theorem dX3_sortBy_8 : decode cX3_sortBy 8 = .ok (.bipush 40, 2) := by decide +kernel
theorem dX3_sortBy_10 : decode cX3_sortBy 10 = .ok (.if_icmp .ge 63, 3) := by decide +kernel
theorem dX3_sortBy_13 : decode cX3_sortBy 13 = .ok (.aload_n 2, 1) := by decide +kernel
theorem dX3_sortBy_14 : decode cX3_sortBy 14 = .ok (.iload 5, 2) := by decide +kernel
theorem dX3_sortBy_16 : decode cX3_sortBy 16 = .ok (.iload 4, 2) := by decide +kernel
theorem dX3_sortBy_18 : decode cX3_sortBy 18 = .ok (.iastore, 1) := by decide +kernel
theorem dX3_sortBy_19 : decode cX3_sortBy 19 = .ok (.iload 5, 2) := by decide +kernel
theorem dX3_sortBy_21 : decode cX3_sortBy 21 = .ok (.aload_n 0, 1) := by decide +kernel
theorem dX3_sortBy_22 : decode cX3_sortBy 22 = .ok (.getfield 9, 3) := by decide +kernel
theorem dX3_sortBy_25 : decode cX3_sortBy 25 = .ok (.if_icmp .lt 6, 3) := by decide +kernel
theorem dX3_sortBy_31 : decode cX3_sortBy 31 = .ok (.iconst 0, 1) := by decide +kernel
theorem dX3_sortBy_32 : decode cX3_sortBy 32 = .ok (.istore 6, 2) := by decide +kernel
theorem dX3_sortBy_34 : decode cX3_sortBy 34 = .ok (.iload 6, 2) := by decide +kernel
theorem dX3_sortBy_36 : decode cX3_sortBy 36 = .ok (.aload_n 0, 1) := by decide +kernel
theorem dX3_sortBy_37 : decode cX3_sortBy 37 = .ok (.getfield 66, 3) := by decide +kernel
theorem dX3_sortBy_40 : decode cX3_sortBy 40 = .ok (.if_icmp .ge 27, 3) := by decide +kernel
theorem dX3_sortBy_67 : decode cX3_sortBy 67 = .ok (.iinc 5 1, 3) := by decide +kernel
theorem dX3_sortBy_70 : decode cX3_sortBy 70 = .ok (.goto (-64), 3) := by decide +kernel
theorem dX3_sortBy_28 : decode cX3_sortBy 28 = .ok (.goto 39, 3) := by decide +kernel
theorem dX3_sortBy_73 : decode cX3_sortBy 73 = .ok (.aload_n 2, 1) := by decide +kernel
theorem dX3_sortBy_74 : decode cX3_sortBy 74 = .ok (.bipush 40, 2) := by decide +kernel
theorem dX3_sortBy_76 : decode cX3_sortBy 76 = .ok (.iload 4, 2) := by decide +kernel
theorem dX3_sortBy_78 : decode cX3_sortBy 78 = .ok (.iastore, 1) := by decide +kernel
theorem dX3_sortBy_79 : decode cX3_sortBy 79 = .ok (.return_, 1) := by decide +kernel
theorem dX3_sortArcs_0 : decode cX3_sortArcs 0 = .ok (.aload_n 0, 1) := by decide +kernel
theorem dX3_sortArcs_1 : decode cX3_sortArcs 1 = .ok (.aload_n 0, 1) := by decide +kernel
theorem dX3_sortArcs_2 : decode cX3_sortArcs 2 = .ok (.getfield 19, 3) := by decide +kernel
theorem dX3_sortArcs_5 : decode cX3_sortArcs 5 = .ok (.aload_n 0, 1) := by decide +kernel
theorem dX3_sortArcs_6 : decode cX3_sortArcs 6 = .ok (.getfield 34, 3) := by decide +kernel
theorem dX3_sortArcs_9 : decode cX3_sortArcs 9 = .ok (.aload_n 0, 1) := by decide +kernel
theorem dX3_sortArcs_10 : decode cX3_sortArcs 10 = .ok (.getfield 37, 3) := by decide +kernel
theorem dX3_sortArcs_13 : decode cX3_sortArcs 13 = .ok (.invokevirtual 86, 3) := by decide +kernel
theorem dX3_sortArcs_16 : decode cX3_sortArcs 16 = .ok (.aload_n 0, 1) := by decide +kernel
theorem dX3_sortArcs_17 : decode cX3_sortArcs 17 = .ok (.aload_n 0, 1) := by decide +kernel
theorem dX3_sortArcs_18 : decode cX3_sortArcs 18 = .ok (.getfield 22, 3) := by decide +kernel
theorem dX3_sortArcs_21 : decode cX3_sortArcs 21 = .ok (.aload_n 0, 1) := by decide +kernel
theorem dX3_sortArcs_22 : decode cX3_sortArcs 22 = .ok (.getfield 40, 3) := by decide +kernel
theorem dX3_sortArcs_25 : decode cX3_sortArcs 25 = .ok (.aload_n 0, 1) := by decide +kernel
theorem dX3_sortArcs_26 : decode cX3_sortArcs 26 = .ok (.getfield 43, 3) := by decide +kernel
theorem dX3_sortArcs_29 : decode cX3_sortArcs 29 = .ok (.invokevirtual 86, 3) := by decide +kernel
theorem dX3_sortArcs_32 : decode cX3_sortArcs 32 = .ok (.return_, 1) := by decide +kernel
theorem dX3_copyFrom_0 : decode cX3_copyFrom 0 = .ok (.aload_n 0, 1) := by decide +kernel
theorem dX3_copyFrom_1 : decode cX3_copyFrom 1 = .ok (.aload_n 1, 1) := by decide +kernel
theorem dX3_copyFrom_2 : decode cX3_copyFrom 2 = .ok (.getfield 9, 3) := by decide +kernel
theorem dX3_copyFrom_5 : decode cX3_copyFrom 5 = .ok (.putfield 9, 3) := by decide +kernel
theorem dX3_copyFrom_8 : decode cX3_copyFrom 8 = .ok (.aload_n 0, 1) := by decide +kernel
theorem dX3_copyFrom_9 : decode cX3_copyFrom 9 = .ok (.aload_n 1, 1) := by decide +kernel
theorem dX3_copyFrom_10 : decode cX3_copyFrom 10 = .ok (.getfield 63, 3) := by decide +kernel
theorem dX3_copyFrom_13 : decode cX3_copyFrom 13 = .ok (.putfield 63, 3) := by decide +kernel
theorem dX3_copyFrom_16 : decode cX3_copyFrom 16 = .ok (.aload_n 0, 1) := by decide +kernel
theorem dX3_copyFrom_17 : decode cX3_copyFrom 17 = .ok (.aload_n 1, 1) := by decide +kernel
theorem dX3_copyFrom_18 : decode cX3_copyFrom 18 = .ok (.getfield 66, 3) := by decide +kernel
theorem dX3_copyFrom_21 : decode cX3_copyFrom 21 = .ok (.putfield 66, 3) := by decide +kernel
theorem dX3_copyFrom_24 : decode cX3_copyFrom 24 = .ok (.aload_n 0, 1) := by decide +kernel
theorem dX3_copyFrom_25 : decode cX3_copyFrom 25 = .ok (.aload_n 1, 1) := by decide +kernel
theorem dX3_copyFrom_26 : decode cX3_copyFrom 26 = .ok (.getfield 53, 3) := by decide +kernel
theorem dX3_copyFrom_29 : decode cX3_copyFrom 29 = .ok (.putfield 53, 3) := by decide +kernel
theorem dX3_copyFrom_32 : decode cX3_copyFrom 32 = .ok (.aload_n 1, 1) := by decide +kernel
theorem dX3_copyFrom_33 : decode cX3_copyFrom 33 = .ok (.getfield 15, 3) := by decide +kernel
theorem dX3_copyFrom_36 : decode cX3_copyFrom 36 = .ok (.iconst 0, 1) := by decide +kernel
theorem dX3_copyFrom_37 : decode cX3_copyFrom 37 = .ok (.aload_n 0, 1) := by decide +kernel
theorem dX3_copyFrom_38 : decode cX3_copyFrom 38 = .ok (.getfield 15, 3) := by decide +kernel
theorem dX3_copyFrom_41 : decode cX3_copyFrom 41 = .ok (.iconst 0, 1) := by decide +kernel
theorem dX3_copyFrom_42 : decode cX3_copyFrom 42 = .ok (.bipush 40, 2) := by decide +kernel
theorem dX3_copyFrom_44 : decode cX3_copyFrom 44 = .ok (.invokestatic 80, 3) := by decide +kernel
theorem dX3_copyFrom_47 : decode cX3_copyFrom 47 = .ok (.aload_n 1, 1) := by decide +kernel
theorem dX3_copyFrom_48 : decode cX3_copyFrom 48 = .ok (.getfield 19, 3) := by decide +kernel
theorem dX3_copyFrom_51 : decode cX3_copyFrom 51 = .ok (.iconst 0, 1) := by decide +kernel
theorem dX3_copyFrom_52 : decode cX3_copyFrom 52 = .ok (.aload_n 0, 1) := by decide +kernel
theorem dX3_copyFrom_53 : decode cX3_copyFrom 53 = .ok (.getfield 19, 3) := by decide +kernel
theorem dX3_copyFrom_56 : decode cX3_copyFrom 56 = .ok (.iconst 0, 1) := by decide +kernel
theorem dX3_copyFrom_57 : decode cX3_copyFrom 57 = .ok (.aload_n 0, 1) := by decide +kernel
theorem dX3_copyFrom_58 : decode cX3_copyFrom 58 = .ok (.getfield 66, 3) := by decide +kernel
theorem dX3_copyFrom_61 : decode cX3_copyFrom 61 = .ok (.invokestatic 80, 3) := by decide +kernel
theorem dX3_copyFrom_64 : decode cX3_copyFrom 64 = .ok (.aload_n 1, 1) := by decide +kernel
theorem dX3_copyFrom_65 : decode cX3_copyFrom 65 = .ok (.getfield 22, 3) := by decide +kernel
theorem dX3_copyFrom_68 : decode cX3_copyFrom 68 = .ok (.iconst 0, 1) := by decide +kernel
theorem dX3_copyFrom_69 : decode cX3_copyFrom 69 = .ok (.aload_n 0, 1) := by decide +kernel
theorem dX3_copyFrom_70 : decode cX3_copyFrom 70 = .ok (.getfield 22, 3) := by decide +kernel
theorem dX3_copyFrom_73 : decode cX3_copyFrom 73 = .ok (.iconst 0, 1) := by decide +kernel
theorem dX3_copyFrom_74 : decode cX3_copyFrom 74 = .ok (.aload_n 0, 1) := by decide +kernel
theorem dX3_copyFrom_75 : decode cX3_copyFrom 75 = .ok (.getfield 66, 3) := by decide +kernel
theorem dX3_copyFrom_78 : decode cX3_copyFrom 78 = .ok (.invokestatic 80, 3) := by decide +kernel
theorem dX3_copyFrom_81 : decode cX3_copyFrom 81 = .ok (.aload_n 1, 1) := by decide +kernel
theorem dX3_copyFrom_82 : decode cX3_copyFrom 82 = .ok (.getfield 25, 3) := by decide +kernel
theorem dX3_copyFrom_85 : decode cX3_copyFrom 85 = .ok (.iconst 0, 1) := by decide +kernel
theorem dX3_copyFrom_86 : decode cX3_copyFrom 86 = .ok (.aload_n 0, 1) := by decide +kernel
theorem dX3_copyFrom_87 : decode cX3_copyFrom 87 = .ok (.getfield 25, 3) := by decide +kernel
theorem dX3_copyFrom_90 : decode cX3_copyFrom 90 = .ok (.iconst 0, 1) := by decide +kernel
theorem dX3_copyFrom_91 : decode cX3_copyFrom 91 = .ok (.aload_n 0, 1) := by decide +kernel
theorem dX3_copyFrom_92 : decode cX3_copyFrom 92 = .ok (.getfield 66, 3) := by decide +kernel
theorem dX3_copyFrom_95 : decode cX3_copyFrom 95 = .ok (.invokestatic 80, 3) := by decide +kernel
theorem dX3_copyFrom_98 : decode cX3_copyFrom 98 = .ok (.aload_n 1, 1) := by decide +kernel
theorem dX3_copyFrom_99 : decode cX3_copyFrom 99 = .ok (.getfield 28, 3) := by decide +kernel
theorem dX3_copyFrom_102 : decode cX3_copyFrom 102 = .ok (.iconst 0, 1) := by decide +kernel
theorem dX3_copyFrom_103 : decode cX3_copyFrom 103 = .ok (.aload_n 0, 1) := by decide +kernel
theorem dX3_copyFrom_104 : decode cX3_copyFrom 104 = .ok (.getfield 28, 3) := by decide +kernel
theorem dX3_copyFrom_107 : decode cX3_copyFrom 107 = .ok (.iconst 0, 1) := by decide +kernel
theorem dX3_copyFrom_108 : decode cX3_copyFrom 108 = .ok (.aload_n 0, 1) := by decide +kernel
theorem dX3_copyFrom_109 : decode cX3_copyFrom 109 = .ok (.getfield 66, 3) := by decide +kernel
theorem dX3_copyFrom_112 : decode cX3_copyFrom 112 = .ok (.invokestatic 80, 3) := by decide +kernel
theorem dX3_copyFrom_115 : decode cX3_copyFrom 115 = .ok (.aload_n 1, 1) := by decide +kernel
theorem dX3_copyFrom_116 : decode cX3_copyFrom 116 = .ok (.getfield 31, 3) := by decide +kernel
theorem dX3_copyFrom_119 : decode cX3_copyFrom 119 = .ok (.iconst 0, 1) := by decide +kernel
theorem dX3_copyFrom_120 : decode cX3_copyFrom 120 = .ok (.aload_n 0, 1) := by decide +kernel
theorem dX3_copyFrom_121 : decode cX3_copyFrom 121 = .ok (.getfield 31, 3) := by decide +kernel
theorem dX3_copyFrom_124 : decode cX3_copyFrom 124 = .ok (.iconst 0, 1) := by decide +kernel
theorem dX3_copyFrom_125 : decode cX3_copyFrom 125 = .ok (.aload_n 0, 1) := by decide +kernel
theorem dX3_copyFrom_126 : decode cX3_copyFrom 126 = .ok (.getfield 66, 3) := by decide +kernel
theorem dX3_copyFrom_129 : decode cX3_copyFrom 129 = .ok (.invokestatic 80, 3) := by decide +kernel
theorem dX3_copyFrom_132 : decode cX3_copyFrom 132 = .ok (.aload_n 1, 1) := by decide +kernel
theorem dX3_copyFrom_133 : decode cX3_copyFrom 133 = .ok (.getfield 34, 3) := by decide +kernel
theorem dX3_copyFrom_136 : decode cX3_copyFrom 136 = .ok (.iconst 0, 1) := by decide +kernel
theorem dX3_copyFrom_137 : decode cX3_copyFrom 137 = .ok (.aload_n 0, 1) := by decide +kernel
theorem dX3_copyFrom_138 : decode cX3_copyFrom 138 = .ok (.getfield 34, 3) := by decide +kernel
theorem dX3_copyFrom_141 : decode cX3_copyFrom 141 = .ok (.iconst 0, 1) := by decide +kernel
theorem dX3_copyFrom_142 : decode cX3_copyFrom 142 = .ok (.bipush 41, 2) := by decide +kernel
theorem dX3_copyFrom_144 : decode cX3_copyFrom 144 = .ok (.invokestatic 80, 3) := by decide +kernel
theorem dX3_copyFrom_147 : decode cX3_copyFrom 147 = .ok (.aload_n 1, 1) := by decide +kernel
theorem dX3_copyFrom_148 : decode cX3_copyFrom 148 = .ok (.getfield 37, 3) := by decide +kernel
theorem dX3_copyFrom_151 : decode cX3_copyFrom 151 = .ok (.iconst 0, 1) := by decide +kernel
theorem dX3_copyFrom_152 : decode cX3_copyFrom 152 = .ok (.aload_n 0, 1) := by decide +kernel
theorem dX3_copyFrom_153 : decode cX3_copyFrom 153 = .ok (.getfield 37, 3) := by decide +kernel
theorem dX3_copyFrom_156 : decode cX3_copyFrom 156 = .ok (.iconst 0, 1) := by decide +kernel
theorem dX3_copyFrom_157 : decode cX3_copyFrom 157 = .ok (.aload_n 0, 1) := by decide +kernel
theorem dX3_copyFrom_158 : decode cX3_copyFrom 158 = .ok (.getfield 66, 3) := by decide +kernel
theorem dX3_copyFrom_161 : decode cX3_copyFrom 161 = .ok (.invokestatic 80, 3) := by decide +kernel
theorem dX3_copyFrom_164 : decode cX3_copyFrom 164 = .ok (.aload_n 1, 1) := by decide +kernel
theorem dX3_copyFrom_165 : decode cX3_copyFrom 165 = .ok (.getfield 40, 3) := by decide +kernel
theorem dX3_copyFrom_168 : decode cX3_copyFrom 168 = .ok (.iconst 0, 1) := by decide +kernel
theorem dX3_copyFrom_169 : decode cX3_copyFrom 169 = .ok (.aload_n 0, 1) := by decide +kernel
theorem dX3_copyFrom_170 : decode cX3_copyFrom 170 = .ok (.getfield 40, 3) := by decide +kernel
theorem dX3_copyFrom_173 : decode cX3_copyFrom 173 = .ok (.iconst 0, 1) := by decide +kernel
theorem dX3_copyFrom_174 : decode cX3_copyFrom 174 = .ok (.bipush 41, 2) := by decide +kernel
theorem dX3_copyFrom_176 : decode cX3_copyFrom 176 = .ok (.invokestatic 80, 3) := by decide +kernel
theorem dX3_copyFrom_179 : decode cX3_copyFrom 179 = .ok (.aload_n 1, 1) := by decide +kernel
theorem dX3_copyFrom_180 : decode cX3_copyFrom 180 = .ok (.getfield 43, 3) := by decide +kernel
theorem dX3_copyFrom_183 : decode cX3_copyFrom 183 = .ok (.iconst 0, 1) := by decide +kernel
theorem dX3_copyFrom_184 : decode cX3_copyFrom 184 = .ok (.aload_n 0, 1) := by decide +kernel
theorem dX3_copyFrom_185 : decode cX3_copyFrom 185 = .ok (.getfield 43, 3) := by decide +kernel
theorem dX3_copyFrom_188 : decode cX3_copyFrom 188 = .ok (.iconst 0, 1) := by decide +kernel
theorem dX3_copyFrom_189 : decode cX3_copyFrom 189 = .ok (.aload_n 0, 1) := by decide +kernel
theorem dX3_copyFrom_190 : decode cX3_copyFrom 190 = .ok (.getfield 66, 3) := by decide +kernel
theorem dX3_copyFrom_193 : decode cX3_copyFrom 193 = .ok (.invokestatic 80, 3) := by decide +kernel
theorem dX3_copyFrom_196 : decode cX3_copyFrom 196 = .ok (.return_, 1) := by decide +kernel
theorem dX3_isBuiltAs_0 : decode cX3_isBuiltAs 0 = .ok (.aload_n 0, 1) := by decide +kernel
theorem dX3_isBuiltAs_1 : decode cX3_isBuiltAs 1 = .ok (.getfield 63, 3) := by decide +kernel
theorem dX3_isBuiltAs_4 : decode cX3_isBuiltAs 4 = .ok (.aload_n 1, 1) := by decide +kernel
theorem dX3_isBuiltAs_5 : decode cX3_isBuiltAs 5 = .ok (.getfield 63, 3) := by decide +kernel
theorem dX3_isBuiltAs_8 : decode cX3_isBuiltAs 8 = .ok (.if_icmp .ne 25, 3) := by decide +kernel
theorem dX3_isBuiltAs_11 : decode cX3_isBuiltAs 11 = .ok (.aload_n 0, 1) := by decide +kernel
theorem dX3_isBuiltAs_12 : decode cX3_isBuiltAs 12 = .ok (.getfield 9, 3) := by decide +kernel
theorem dX3_isBuiltAs_15 : decode cX3_isBuiltAs 15 = .ok (.aload_n 1, 1) := by decide +kernel
theorem dX3_isBuiltAs_16 : decode cX3_isBuiltAs 16 = .ok (.getfield 9, 3) := by decide +kernel
theorem dX3_isBuiltAs_19 : decode cX3_isBuiltAs 19 = .ok (.if_icmp .ne 14, 3) := by decide +kernel
theorem dX3_isBuiltAs_22 : decode cX3_isBuiltAs 22 = .ok (.aload_n 0, 1) := by decide +kernel
theorem dX3_isBuiltAs_23 : decode cX3_isBuiltAs 23 = .ok (.getfield 66, 3) := by decide +kernel
theorem dX3_isBuiltAs_26 : decode cX3_isBuiltAs 26 = .ok (.aload_n 1, 1) := by decide +kernel
theorem dX3_isBuiltAs_27 : decode cX3_isBuiltAs 27 = .ok (.getfield 66, 3) := by decide +kernel
theorem dX3_isBuiltAs_30 : decode cX3_isBuiltAs 30 = .ok (.if_icmp .eq 5, 3) := by decide +kernel
theorem dX3_isBuiltAs_35 : decode cX3_isBuiltAs 35 = .ok (.iconst 0, 1) := by decide +kernel
theorem dX3_isBuiltAs_36 : decode cX3_isBuiltAs 36 = .ok (.istore_n 2, 1) := by decide +kernel
theorem dX3_isBuiltAs_37 : decode cX3_isBuiltAs 37 = .ok (.iload_n 2, 1) := by decide +kernel
theorem dX3_isBuiltAs_38 : decode cX3_isBuiltAs 38 = .ok (.aload_n 0, 1) := by decide +kernel
theorem dX3_isBuiltAs_39 : decode cX3_isBuiltAs 39 = .ok (.getfield 9, 3) := by decide +kernel
theorem dX3_isBuiltAs_42 : decode cX3_isBuiltAs 42 = .ok (.if_icmp .ge 26, 3) := by decide +kernel
theorem dX3_isBuiltAs_45 : decode cX3_isBuiltAs 45 = .ok (.aload_n 0, 1) := by decide +kernel
theorem dX3_isBuiltAs_46 : decode cX3_isBuiltAs 46 = .ok (.getfield 15, 3) := by decide +kernel
theorem dX3_isBuiltAs_49 : decode cX3_isBuiltAs 49 = .ok (.iload_n 2, 1) := by decide +kernel
theorem dX3_isBuiltAs_50 : decode cX3_isBuiltAs 50 = .ok (.iaload, 1) := by decide +kernel
theorem dX3_isBuiltAs_51 : decode cX3_isBuiltAs 51 = .ok (.aload_n 1, 1) := by decide +kernel
theorem dX3_isBuiltAs_52 : decode cX3_isBuiltAs 52 = .ok (.getfield 15, 3) := by decide +kernel
theorem dX3_isBuiltAs_55 : decode cX3_isBuiltAs 55 = .ok (.iload_n 2, 1) := by decide +kernel
theorem dX3_isBuiltAs_56 : decode cX3_isBuiltAs 56 = .ok (.iaload, 1) := by decide +kernel
theorem dX3_isBuiltAs_57 : decode cX3_isBuiltAs 57 = .ok (.if_icmp .eq 5, 3) := by decide +kernel
theorem dX3_isBuiltAs_62 : decode cX3_isBuiltAs 62 = .ok (.iinc 2 1, 3) := by decide +kernel
theorem dX3_isBuiltAs_65 : decode cX3_isBuiltAs 65 = .ok (.goto (-28), 3) := by decide +kernel
theorem dX3_isBuiltAs_68 : decode cX3_isBuiltAs 68 = .ok (.iconst 0, 1) := by decide +kernel
theorem dX3_isBuiltAs_69 : decode cX3_isBuiltAs 69 = .ok (.istore_n 2, 1) := by decide +kernel
theorem dX3_isBuiltAs_70 : decode cX3_isBuiltAs 70 = .ok (.iload_n 2, 1) := by decide +kernel
theorem dX3_isBuiltAs_71 : decode cX3_isBuiltAs 71 = .ok (.aload_n 0, 1) := by decide +kernel
theorem dX3_isBuiltAs_72 : decode cX3_isBuiltAs 72 = .ok (.getfield 66, 3) := by decide +kernel
theorem dX3_isBuiltAs_75 : decode cX3_isBuiltAs 75 = .ok (.if_icmp .ge 86, 3) := by decide +kernel
theorem dX3_isBuiltAs_161 : decode cX3_isBuiltAs 161 = .ok (.iconst 1, 1) := by decide +kernel
theorem dX3_isBuiltAs_162 : decode cX3_isBuiltAs 162 = .ok (.ireturn, 1) := by decide +kernel
theorem dX12_begins_0 : decode cX12_begins 0 = .ok (.iconst 0, 1) := by decide +kernel
theorem dX12_begins_1 : decode cX12_begins 1 = .ok (.istore_n 2, 1) := by decide +kernel
theorem dX12_begins_2 : decode cX12_begins 2 = .ok (.iload_n 2, 1) := by decide +kernel
theorem dX12_begins_3 : decode cX12_begins 3 = .ok (.sipush 643, 3) := by decide +kernel
theorem dX12_begins_6 : decode cX12_begins 6 = .ok (.if_icmp .ge 13, 3) := by decide +kernel
theorem dX12_begins_9 : decode cX12_begins 9 = .ok (.aload_n 0, 1) := by decide +kernel
theorem dX12_begins_10 : decode cX12_begins 10 = .ok (.iload_n 2, 1) := by decide +kernel
theorem dX12_begins_11 : decode cX12_begins 11 = .ok (.iconst 0, 1) := by decide +kernel
theorem dX12_begins_12 : decode cX12_begins 12 = .ok (.iastore, 1) := by decide +kernel
theorem dX12_begins_13 : decode cX12_begins 13 = .ok (.iinc 2 1, 3) := by decide +kernel
theorem dX12_begins_16 : decode cX12_begins 16 = .ok (.goto (-14), 3) := by decide +kernel
theorem dX12_begins_19 : decode cX12_begins 19 = .ok (.aload_n 0, 1) := by decide +kernel
theorem dX12_begins_20 : decode cX12_begins 20 = .ok (.iconst 0, 1) := by decide +kernel
theorem dX12_begins_21 : decode cX12_begins 21 = .ok (.iload_n 1, 1) := by decide +kernel
theorem dX12_begins_22 : decode cX12_begins 22 = .ok (.iastore, 1) := by decide +kernel
theorem dX12_begins_23 : decode cX12_begins 23 = .ok (.iconst 0, 1) := by decide +kernel
theorem dX12_begins_24 : decode cX12_begins 24 = .ok (.istore_n 2, 1) := by decide +kernel
theorem dX12_begins_25 : decode cX12_begins 25 = .ok (.iload_n 2, 1) := by decide +kernel
theorem dX12_begins_26 : decode cX12_begins 26 = .ok (.bipush 40, 2) := by decide +kernel
theorem dX12_begins_28 : decode cX12_begins 28 = .ok (.if_icmp .ge 15, 3) := by decide +kernel
theorem dX12_begins_31 : decode cX12_begins 31 = .ok (.aload_n 0, 1) := by decide +kernel
theorem dX12_begins_32 : decode cX12_begins 32 = .ok (.iconst 3, 1) := by decide +kernel
theorem dX12_begins_33 : decode cX12_begins 33 = .ok (.iload_n 2, 1) := by decide +kernel
theorem dX12_begins_34 : decode cX12_begins 34 = .ok (.iadd, 1) := by decide +kernel
theorem dX12_begins_35 : decode cX12_begins 35 = .ok (.iconst (-1), 1) := by decide +kernel
theorem dX12_begins_36 : decode cX12_begins 36 = .ok (.iastore, 1) := by decide +kernel
theorem dX12_begins_37 : decode cX12_begins 37 = .ok (.iinc 2 1, 3) := by decide +kernel
theorem dX12_begins_40 : decode cX12_begins 40 = .ok (.goto (-15), 3) := by decide +kernel
theorem dX12_begins_43 : decode cX12_begins 43 = .ok (.return_, 1) := by decide +kernel
theorem dX12_copies_0 : decode cX12_copies 0 = .ok (.iconst 0, 1) := by decide +kernel
theorem dX12_copies_1 : decode cX12_copies 1 = .ok (.istore_n 2, 1) := by decide +kernel
theorem dX12_copies_2 : decode cX12_copies 2 = .ok (.iload_n 2, 1) := by decide +kernel
theorem dX12_copies_3 : decode cX12_copies 3 = .ok (.sipush 643, 3) := by decide +kernel
theorem dX12_copies_6 : decode cX12_copies 6 = .ok (.if_icmp .ge 15, 3) := by decide +kernel
theorem dX12_copies_9 : decode cX12_copies 9 = .ok (.aload_n 1, 1) := by decide +kernel
theorem dX12_copies_10 : decode cX12_copies 10 = .ok (.iload_n 2, 1) := by decide +kernel
theorem dX12_copies_11 : decode cX12_copies 11 = .ok (.aload_n 0, 1) := by decide +kernel
theorem dX12_copies_12 : decode cX12_copies 12 = .ok (.iload_n 2, 1) := by decide +kernel
theorem dX12_copies_13 : decode cX12_copies 13 = .ok (.iaload, 1) := by decide +kernel
theorem dX12_copies_14 : decode cX12_copies 14 = .ok (.iastore, 1) := by decide +kernel
theorem dX12_copies_15 : decode cX12_copies 15 = .ok (.iinc 2 1, 3) := by decide +kernel
theorem dX12_copies_18 : decode cX12_copies 18 = .ok (.goto (-16), 3) := by decide +kernel
theorem dX12_copies_21 : decode cX12_copies 21 = .ok (.return_, 1) := by decide +kernel
theorem dX3_init_0 : decode cX3_init 0 = .ok (.aload_n 0, 1) := by decide +kernel
theorem dX3_init_1 : decode cX3_init 1 = .ok (.invokespecial 3, 3) := by decide +kernel
theorem dX3_init_4 : decode cX3_init 4 = .ok (.aload_n 0, 1) := by decide +kernel
theorem dX3_init_5 : decode cX3_init 5 = .ok (.iconst 1, 1) := by decide +kernel
theorem dX3_init_6 : decode cX3_init 6 = .ok (.putfield 9, 3) := by decide +kernel
theorem dX3_init_9 : decode cX3_init 9 = .ok (.aload_n 0, 1) := by decide +kernel
theorem dX3_init_10 : decode cX3_init 10 = .ok (.bipush 40, 2) := by decide +kernel
theorem dX3_init_12 : decode cX3_init 12 = .ok (.newarray .int, 2) := by decide +kernel
theorem dX3_init_14 : decode cX3_init 14 = .ok (.putfield 15, 3) := by decide +kernel
theorem dX3_init_17 : decode cX3_init 17 = .ok (.aload_n 0, 1) := by decide +kernel
theorem dX3_init_18 : decode cX3_init 18 = .ok (.bipush 120, 2) := by decide +kernel
theorem dX3_init_20 : decode cX3_init 20 = .ok (.newarray .int, 2) := by decide +kernel
theorem dX3_init_22 : decode cX3_init 22 = .ok (.putfield 19, 3) := by decide +kernel
theorem dX3_init_25 : decode cX3_init 25 = .ok (.aload_n 0, 1) := by decide +kernel
theorem dX3_init_26 : decode cX3_init 26 = .ok (.bipush 120, 2) := by decide +kernel
theorem dX3_init_28 : decode cX3_init 28 = .ok (.newarray .int, 2) := by decide +kernel
theorem dX3_init_30 : decode cX3_init 30 = .ok (.putfield 22, 3) := by decide +kernel
theorem dX3_init_33 : decode cX3_init 33 = .ok (.aload_n 0, 1) := by decide +kernel
theorem dX3_init_34 : decode cX3_init 34 = .ok (.bipush 120, 2) := by decide +kernel
theorem dX3_init_36 : decode cX3_init 36 = .ok (.newarray .int, 2) := by decide +kernel
theorem dX3_init_38 : decode cX3_init 38 = .ok (.putfield 25, 3) := by decide +kernel
theorem dX3_init_41 : decode cX3_init 41 = .ok (.aload_n 0, 1) := by decide +kernel
theorem dX3_init_42 : decode cX3_init 42 = .ok (.bipush 120, 2) := by decide +kernel
theorem dX3_init_44 : decode cX3_init 44 = .ok (.newarray .int, 2) := by decide +kernel
theorem dX3_init_46 : decode cX3_init 46 = .ok (.putfield 28, 3) := by decide +kernel
theorem dX3_init_49 : decode cX3_init 49 = .ok (.aload_n 0, 1) := by decide +kernel
theorem dX3_init_50 : decode cX3_init 50 = .ok (.bipush 120, 2) := by decide +kernel
theorem dX3_init_52 : decode cX3_init 52 = .ok (.newarray .int, 2) := by decide +kernel
theorem dX3_init_54 : decode cX3_init 54 = .ok (.putfield 31, 3) := by decide +kernel
theorem dX3_init_57 : decode cX3_init 57 = .ok (.aload_n 0, 1) := by decide +kernel
theorem dX3_init_58 : decode cX3_init 58 = .ok (.bipush 41, 2) := by decide +kernel
theorem dX3_init_60 : decode cX3_init 60 = .ok (.newarray .int, 2) := by decide +kernel
theorem dX3_init_62 : decode cX3_init 62 = .ok (.putfield 34, 3) := by decide +kernel
theorem dX3_init_65 : decode cX3_init 65 = .ok (.aload_n 0, 1) := by decide +kernel
theorem dX3_init_66 : decode cX3_init 66 = .ok (.bipush 120, 2) := by decide +kernel
theorem dX3_init_68 : decode cX3_init 68 = .ok (.newarray .int, 2) := by decide +kernel
theorem dX3_init_70 : decode cX3_init 70 = .ok (.putfield 37, 3) := by decide +kernel
theorem dX3_init_73 : decode cX3_init 73 = .ok (.aload_n 0, 1) := by decide +kernel
theorem dX3_init_74 : decode cX3_init 74 = .ok (.bipush 41, 2) := by decide +kernel
theorem dX3_init_76 : decode cX3_init 76 = .ok (.newarray .int, 2) := by decide +kernel
theorem dX3_init_78 : decode cX3_init 78 = .ok (.putfield 40, 3) := by decide +kernel
theorem dX3_init_81 : decode cX3_init 81 = .ok (.aload_n 0, 1) := by decide +kernel
theorem dX3_init_82 : decode cX3_init 82 = .ok (.bipush 120, 2) := by decide +kernel
theorem dX3_init_84 : decode cX3_init 84 = .ok (.newarray .int, 2) := by decide +kernel
theorem dX3_init_86 : decode cX3_init 86 = .ok (.putfield 43, 3) := by decide +kernel
theorem dX3_init_89 : decode cX3_init 89 = .ok (.aload_n 0, 1) := by decide +kernel
theorem dX3_init_90 : decode cX3_init 90 = .ok (.getfield 15, 3) := by decide +kernel
theorem dX3_init_93 : decode cX3_init 93 = .ok (.iconst (-1), 1) := by decide +kernel
theorem dX3_init_94 : decode cX3_init 94 = .ok (.invokestatic 46, 3) := by decide +kernel
theorem dX3_init_97 : decode cX3_init 97 = .ok (.return_, 1) := by decide +kernel
set_option maxHeartbeats 4000000 in
set_option maxRecDepth 100000 in
theorem k0_X3_isAcceptor (l : Launch) (G : va_G) (cy : Nat → ClassId) (h0 h1 h2 h3 h4 h5 h6 h7 h8 h9 h10 : Nat) : zI l G cy yX3_isAcceptor cX3_isAcceptor 2 (some .boolean) 0 0 0 [.ref h0] [(h0, .inr (3, [.int 1, .int 0, .int 0, .int 0, .ref h1, .ref h2, .ref h3, .ref h4, .ref h5, .ref h6, .ref h7, .ref h8, .ref h9, .ref h10]))] 1 (fun _ => [(h0, .inr (3, [.int 1, .int 0, .int 0, .int 0, .ref h1, .ref h2, .ref h3, .ref h4, .ref h5, .ref h6, .ref h7, .ref h8, .ref h9, .ref h10]))]) := by
  refine zM.of (by decide) (Nat.le_of_ble_eq_true rfl) ?_
  intro p e s m args below meth c ls A hx hb hml hown hts hlk hr hin hl hK hA hT
  have hown : s.vm.findClass "CostBench$Machine" = some m.cls := hown
  have hl : lv_has ls 2 [(0, .ref h0)] := hl
  refine lv_iconst (pc := 0) (v := 0) hx hb dX3_isAcceptor_0 (by decide) ?_
  refine lv_istore_n (pc := 1) (lv' := [(1, .int 0), (0, .ref h0)]) hx hb dX3_isAcceptor_1 rfl hl (by decide) rfl (fun ls hl => ?_)
  refine lv_iload_n (pc := 2) hx hb dX3_isAcceptor_2 rfl (lv_at hl 0 rfl) ?_
  refine lv_aload_n (pc := 3) hx hb dX3_isAcceptor_3 rfl (lv_at hl 1 rfl) ?_
  refine z_get (pc := 4) hx hb hts hown hK hT 0 3 2 rfl rfl (by decide) rfl w1_64 rfl dX3_isAcceptor_4 ?_
  refine zb_icmp_ge_t (pc := 7) (tgt := 33) hx hb dX3_isAcceptor_7 (by decide) (by decide) ?_
  refine lv_iconst (pc := 33) (v := 1) hx hb dX3_isAcceptor_33 (by decide) ?_
  exact z_zret (pc := 34) hx hb hr hlk hT (fun _ _ => 0) [0] rfl rfl rfl rfl (Nat.le_of_ble_eq_true rfl) (Nat.le_of_ble_eq_true rfl) dX3_isAcceptor_34
set_option maxHeartbeats 4000000 in
set_option maxRecDepth 100000 in
theorem k1_X3_isOneWay (l : Launch) (G : va_G) (cy : Nat → ClassId) (h0 h1 h2 h3 h4 h5 h6 h7 h8 h9 h10 : Nat) : zI l G cy yX3_isOneWay cX3_isOneWay 3 (some .boolean) 0 0 0 [.ref h0] [(h0, .inr (3, [.int 1, .int 0, .int 0, .int 0, .ref h1, .ref h2, .ref h3, .ref h4, .ref h5, .ref h6, .ref h7, .ref h8, .ref h9, .ref h10]))] 1 (fun _ => [(h0, .inr (3, [.int 1, .int 0, .int 0, .int 0, .ref h1, .ref h2, .ref h3, .ref h4, .ref h5, .ref h6, .ref h7, .ref h8, .ref h9, .ref h10]))]) := by
  refine zM.of (by decide) (Nat.le_of_ble_eq_true rfl) ?_
  intro p e s m args below meth c ls A hx hb hml hown hts hlk hr hin hl hK hA hT
  have hown : s.vm.findClass "CostBench$Machine" = some m.cls := hown
  have hl : lv_has ls 3 [(0, .ref h0)] := hl
  refine lv_iconst (pc := 0) (v := 0) hx hb dX3_isOneWay_0 (by decide) ?_
  refine lv_istore_n (pc := 1) (lv' := [(1, .int 0), (0, .ref h0)]) hx hb dX3_isOneWay_1 rfl hl (by decide) rfl (fun ls hl => ?_)
  refine lv_iload_n (pc := 2) hx hb dX3_isOneWay_2 rfl (lv_at hl 0 rfl) ?_
  refine lv_aload_n (pc := 3) hx hb dX3_isOneWay_3 rfl (lv_at hl 1 rfl) ?_
  refine z_get (pc := 4) hx hb hts hown hK hT 0 3 2 rfl rfl (by decide) rfl w1_64 rfl dX3_isOneWay_4 ?_
  refine zb_icmp_ge_t (pc := 7) (tgt := 72) hx hb dX3_isOneWay_7 (by decide) (by decide) ?_
  refine lv_iconst (pc := 72) (v := 1) hx hb dX3_isOneWay_72 (by decide) ?_
  exact z_zret (pc := 73) hx hb hr hlk hT (fun _ _ => 0) [0] rfl rfl rfl rfl (Nat.le_of_ble_eq_true rfl) (Nat.le_of_ble_eq_true rfl) dX3_isOneWay_73
set_option maxHeartbeats 4000000 in
set_option maxRecDepth 100000 in
theorem k2_X3_countEndings (l : Launch) (G : va_G) (cy : Nat → ClassId) (h0 h1 h2 h3 h4 h5 h6 h7 h8 h9 h10 : Nat) : zI l G cy yX3_countEndings cX3_countEndings 3 (some .int) 0 0 0 [.ref h0] [(h0, .inr (3, [.int 1, .int 0, .int 0, .int 0, .ref h1, .ref h2, .ref h3, .ref h4, .ref h5, .ref h6, .ref h7, .ref h8, .ref h9, .ref h10])), (h1, .inl (cy 0, 40, .inl (kc (-1))))] 0 (fun _ => [(h0, .inr (3, [.int 1, .int 0, .int 0, .int 0, .ref h1, .ref h2, .ref h3, .ref h4, .ref h5, .ref h6, .ref h7, .ref h8, .ref h9, .ref h10])), (h1, .inl (cy 0, 40, .inl (kc (-1))))]) := by
  refine zM.of (by decide) (Nat.le_of_ble_eq_true rfl) ?_
  intro p e s m args below meth c ls A hx hb hml hown hts hlk hr hin hl hK hA hT
  have hown : s.vm.findClass "CostBench$Machine" = some m.cls := hown
  have hl : lv_has ls 3 [(0, .ref h0)] := hl
  refine lv_iconst (pc := 0) (v := 0) hx hb dX3_countEndings_0 (by decide) ?_
  refine lv_istore_n (pc := 1) (lv' := [(1, .int 0), (0, .ref h0)]) hx hb dX3_countEndings_1 rfl hl (by decide) rfl (fun ls hl => ?_)
  refine lv_iconst (pc := 2) (v := 0) hx hb dX3_countEndings_2 (by decide) ?_
  refine lv_istore_n (pc := 3) (lv' := [(2, .int 0), (1, .int 0), (0, .ref h0)]) hx hb dX3_countEndings_3 rfl hl (by decide) rfl (fun ls hl => ?_)
  refine lv_iload_n (pc := 4) hx hb dX3_countEndings_4 rfl (lv_at hl 0 rfl) ?_
  refine lv_aload_n (pc := 5) hx hb dX3_countEndings_5 rfl (lv_at hl 2 rfl) ?_
  refine z_get (pc := 6) hx hb hts hown hK hT 0 3 0 rfl rfl (by decide) rfl w1_50 rfl dX3_countEndings_6 ?_
  refine zb_icmp_ge_f (pc := 9) (tgt := 36) hx hb dX3_countEndings_9 (by decide) (by decide) ?_
  refine lv_iload_n (pc := 12) hx hb dX3_countEndings_12 rfl (lv_at hl 1 rfl) ?_
  refine lv_aload_n (pc := 13) hx hb dX3_countEndings_13 rfl (lv_at hl 2 rfl) ?_
  refine z_get (pc := 14) hx hb hts hown hK hT 0 3 4 rfl rfl (by decide) rfl w1_74 rfl dX3_countEndings_14 ?_
  refine lv_iload_n (pc := 17) hx hb dX3_countEndings_17 rfl (lv_at hl 0 rfl) ?_
  refine z_iald (pc := 18) (v := (-1)) hx hb hK hT 1 0 rfl rfl (by decide) (by decide) rfl dX3_countEndings_18 ?_
  refine lv_iconst (pc := 19) (v := (-1)) hx hb dX3_countEndings_19 (by decide) ?_
  refine zb_icmp_ne_f (pc := 20) (tgt := 27) hx hb dX3_countEndings_20 (by decide) (by decide) ?_
  refine lv_iconst (pc := 23) (v := 0) hx hb dX3_countEndings_23 (by decide) ?_
  refine lv_goto (pc := 24) (tgt := 28) hx hb dX3_countEndings_24 (by decide) ?_
  refine z_iadd (pc := 28) (v := 0) hx hb dX3_countEndings_28 (by decide) ?_
  refine lv_istore_n (pc := 29) (lv' := [(1, .int 0), (2, .int 0), (0, .ref h0)]) hx hb dX3_countEndings_29 rfl hl (by decide) rfl (fun ls hl => ?_)
  refine lv_iinc (pc := 30) (v := 1) (lv' := [(2, .int 1), (1, .int 0), (0, .ref h0)]) hx hb dX3_countEndings_30 hl (k := 1) rfl (by decide) (by decide) rfl (fun ls hl => ?_)
  refine lv_goto (pc := 33) (tgt := 4) hx hb dX3_countEndings_33 (by decide) ?_
  refine lv_iload_n (pc := 4) hx hb dX3_countEndings_4 rfl (lv_at hl 0 rfl) ?_
  refine lv_aload_n (pc := 5) hx hb dX3_countEndings_5 rfl (lv_at hl 2 rfl) ?_
  refine z_get (pc := 6) hx hb hts hown hK hT 0 3 0 rfl rfl (by decide) rfl w1_50 rfl dX3_countEndings_6 ?_
  refine zb_icmp_ge_t (pc := 9) (tgt := 36) hx hb dX3_countEndings_9 (by decide) (by decide) ?_
  refine lv_iload_n (pc := 36) hx hb dX3_countEndings_36 rfl (lv_at hl 1 rfl) ?_
  exact z_iret (pc := 37) hx hb hr hlk hT (fun _ _ => 0) [0, 1] rfl rfl rfl (Nat.le_of_ble_eq_true rfl) (Nat.le_of_ble_eq_true rfl) dX3_countEndings_37
set_option maxHeartbeats 4000000 in
set_option maxRecDepth 100000 in
theorem k3_X3_countSilent (l : Launch) (G : va_G) (cy : Nat → ClassId) (h0 h1 h2 h3 h4 h5 h6 h7 h8 h9 h10 : Nat) : zI l G cy yX3_countSilent cX3_countSilent 3 (some .int) 0 0 0 [.ref h0] [(h0, .inr (3, [.int 1, .int 0, .int 0, .int 0, .ref h1, .ref h2, .ref h3, .ref h4, .ref h5, .ref h6, .ref h7, .ref h8, .ref h9, .ref h10]))] 0 (fun _ => [(h0, .inr (3, [.int 1, .int 0, .int 0, .int 0, .ref h1, .ref h2, .ref h3, .ref h4, .ref h5, .ref h6, .ref h7, .ref h8, .ref h9, .ref h10]))]) := by
  refine zM.of (by decide) (Nat.le_of_ble_eq_true rfl) ?_
  intro p e s m args below meth c ls A hx hb hml hown hts hlk hr hin hl hK hA hT
  have hown : s.vm.findClass "CostBench$Machine" = some m.cls := hown
  have hl : lv_has ls 3 [(0, .ref h0)] := hl
  refine lv_iconst (pc := 0) (v := 0) hx hb dX3_countSilent_0 (by decide) ?_
  refine lv_istore_n (pc := 1) (lv' := [(1, .int 0), (0, .ref h0)]) hx hb dX3_countSilent_1 rfl hl (by decide) rfl (fun ls hl => ?_)
  refine lv_iconst (pc := 2) (v := 0) hx hb dX3_countSilent_2 (by decide) ?_
  refine lv_istore_n (pc := 3) (lv' := [(2, .int 0), (1, .int 0), (0, .ref h0)]) hx hb dX3_countSilent_3 rfl hl (by decide) rfl (fun ls hl => ?_)
  refine lv_iload_n (pc := 4) hx hb dX3_countSilent_4 rfl (lv_at hl 0 rfl) ?_
  refine lv_aload_n (pc := 5) hx hb dX3_countSilent_5 rfl (lv_at hl 2 rfl) ?_
  refine z_get (pc := 6) hx hb hts hown hK hT 0 3 2 rfl rfl (by decide) rfl w1_64 rfl dX3_countSilent_6 ?_
  refine zb_icmp_ge_t (pc := 9) (tgt := 44) hx hb dX3_countSilent_9 (by decide) (by decide) ?_
  refine lv_iload_n (pc := 44) hx hb dX3_countSilent_44 rfl (lv_at hl 1 rfl) ?_
  exact z_iret (pc := 45) hx hb hr hlk hT (fun _ _ => 0) [0] rfl rfl rfl (Nat.le_of_ble_eq_true rfl) (Nat.le_of_ble_eq_true rfl) dX3_countSilent_45
set_option maxHeartbeats 4000000 in
set_option maxRecDepth 100000 in
theorem k4_X3_setEnding (l : Launch) (G : va_G) (cy : Nat → ClassId) (h0 h1 h2 h3 h4 h5 h6 h7 h8 h9 h10 : Nat) : zV l G cy yX3_setEnding cX3_setEnding 3 none 0 0 0 [.ref h0, .int 0, .int (-1)] [(h0, .inr (3, [.int 1, .int 0, .int 0, .int 0, .ref h1, .ref h2, .ref h3, .ref h4, .ref h5, .ref h6, .ref h7, .ref h8, .ref h9, .ref h10])), (h1, .inl (cy 0, 40, .inl (kc (-1))))] (fun _ => [(h0, .inr (3, [.int 1, .int 0, .int 0, .int 0, .ref h1, .ref h2, .ref h3, .ref h4, .ref h5, .ref h6, .ref h7, .ref h8, .ref h9, .ref h10])), (h1, .inl (cy 0, 40, .inl (kc (-1))))]) := by
  refine zM.of (by decide) (Nat.le_of_ble_eq_true rfl) ?_
  intro p e s m args below meth c ls A hx hb hml hown hts hlk hr hin hl hK hA hT
  have hown : s.vm.findClass "CostBench$Machine" = some m.cls := hown
  have hl : lv_has ls 3 [(0, .ref h0), (1, .int 0), (2, .int (-1))] := hl
  refine lv_iload_n (pc := 0) hx hb dX3_setEnding_0 rfl (lv_at hl 1 rfl) ?_
  refine zb_if_lt_f (pc := 1) (tgt := 18) hx hb dX3_setEnding_1 (by decide) (by decide) ?_
  refine lv_iload_n (pc := 4) hx hb dX3_setEnding_4 rfl (lv_at hl 1 rfl) ?_
  refine lv_aload_n (pc := 5) hx hb dX3_setEnding_5 rfl (lv_at hl 0 rfl) ?_
  refine z_get (pc := 6) hx hb hts hown hK hT 0 3 0 rfl rfl (by decide) rfl w1_50 rfl dX3_setEnding_6 ?_
  refine zb_icmp_ge_f (pc := 9) (tgt := 18) hx hb dX3_setEnding_9 (by decide) (by decide) ?_
  refine lv_iload_n (pc := 12) hx hb dX3_setEnding_12 rfl (lv_at hl 2 rfl) ?_
  refine lv_ldc (pc := 13) (v := 1000000) hx hb hown (hts _ w4_49) dX3_setEnding_13 ?_
  refine zb_icmp_le_t (pc := 15) (tgt := 24) hx hb dX3_setEnding_15 (by decide) (by decide) ?_
  refine lv_aload_n (pc := 24) hx hb dX3_setEnding_24 rfl (lv_at hl 0 rfl) ?_
  refine z_get (pc := 25) hx hb hts hown hK hT 0 3 4 rfl rfl (by decide) rfl w1_74 rfl dX3_setEnding_25 ?_
  refine lv_iload_n (pc := 28) hx hb dX3_setEnding_28 rfl (lv_at hl 1 rfl) ?_
  refine lv_iload_n (pc := 29) hx hb dX3_setEnding_29 rfl (lv_at hl 2 rfl) ?_
  refine z_iast (pc := 30) hx hb hK hT 1 0 rfl rfl (by decide) (by decide) dX3_setEnding_30 (kc (-1)) (fun j _ => z_upds rfl j) [(h0, .inr (3, [.int 1, .int 0, .int 0, .int 0, .ref h1, .ref h2, .ref h3, .ref h4, .ref h5, .ref h6, .ref h7, .ref h8, .ref h9, .ref h10])), (h1, .inl (cy 0, 40, .inl (kc (-1))))] rfl (fun H locs hT => ?_)
  exact z_vret (pc := 31) hx hb hr hlk hT (fun _ _ => 0) [0, 1] rfl rfl (Nat.le_of_ble_eq_true rfl) (Nat.le_of_ble_eq_true rfl) dX3_setEnding_31
set_option maxHeartbeats 4000000 in
set_option maxRecDepth 100000 in
theorem k5_X3_addState (l : Launch) (G : va_G) (cy : Nat → ClassId) (h0 h1 h2 h3 h4 h5 h6 h7 h8 h9 h10 : Nat) : zI l G cy yX3_addState cX3_addState 1 (some .int) 0 0 0 [.ref h0] [(h0, .inr (3, [.int 1, .int 0, .int 0, .int 0, .ref h1, .ref h2, .ref h3, .ref h4, .ref h5, .ref h6, .ref h7, .ref h8, .ref h9, .ref h10]))] 1 (fun _ => [(h0, .inr (3, [.int 2, .int 0, .int 0, .int 0, .ref h1, .ref h2, .ref h3, .ref h4, .ref h5, .ref h6, .ref h7, .ref h8, .ref h9, .ref h10]))]) := by
  refine zM.of (by decide) (Nat.le_of_ble_eq_true rfl) ?_
  intro p e s m args below meth c ls A hx hb hml hown hts hlk hr hin hl hK hA hT
  have hown : s.vm.findClass "CostBench$Machine" = some m.cls := hown
  have hl : lv_has ls 1 [(0, .ref h0)] := hl
  refine lv_aload_n (pc := 0) hx hb dX3_addState_0 rfl (lv_at hl 0 rfl) ?_
  refine z_get (pc := 1) hx hb hts hown hK hT 0 3 0 rfl rfl (by decide) rfl w1_50 rfl dX3_addState_1 ?_
  refine lv_bipush (pc := 4) (v := 40) hx hb dX3_addState_4 (by decide) ?_
  refine zb_icmp_lt_t (pc := 6) (tgt := 16) hx hb dX3_addState_6 (by decide) (by decide) ?_
  refine lv_aload_n (pc := 16) hx hb dX3_addState_16 rfl (lv_at hl 0 rfl) ?_
  refine lv_dup (pc := 17) hx hb dX3_addState_17 rfl ?_
  refine z_get (pc := 18) hx hb hts hown hK hT 0 3 0 rfl rfl (by decide) rfl w1_50 rfl dX3_addState_18 ?_
  refine lv_iconst (pc := 21) (v := 1) hx hb dX3_addState_21 (by decide) ?_
  refine z_iadd (pc := 22) (v := 2) hx hb dX3_addState_22 (by decide) ?_
  refine z_put (pc := 23) (ty := .int) hx hb hts hown hK hT 0 3 0 (by decide +kernel) rfl rfl rfl rfl (by decide) rfl w1_50 (Nat.le_of_ble_eq_true rfl) dX3_addState_23 [(h0, .inr (3, [.int 2, .int 0, .int 0, .int 0, .ref h1, .ref h2, .ref h3, .ref h4, .ref h5, .ref h6, .ref h7, .ref h8, .ref h9, .ref h10]))] rfl (fun H locs hT => ?_)
  refine lv_aload_n (pc := 26) hx hb dX3_addState_26 rfl (lv_at hl 0 rfl) ?_
  refine z_get (pc := 27) hx hb hts hown hK hT 0 3 0 rfl rfl (by decide) rfl w1_50 rfl dX3_addState_27 ?_
  refine lv_iconst (pc := 30) (v := 1) hx hb dX3_addState_30 (by decide) ?_
  refine z_isub (pc := 31) (v := 1) hx hb dX3_addState_31 (by decide) ?_
  exact z_iret (pc := 32) hx hb hr hlk hT (fun _ _ => 0) [0] rfl rfl rfl (Nat.le_of_ble_eq_true rfl) (Nat.le_of_ble_eq_true rfl) dX3_addState_32
set_option maxHeartbeats 4000000 in
set_option maxRecDepth 100000 in
theorem k6_X3_sortBy (l : Launch) (G : va_G) (cy : Nat → ClassId) (h0 h1 h2 h3 h4 h5 h6 h7 h8 h9 h10 : Nat) : zV l G cy yX3_sortBy cX3_sortBy 7 none 0 0 0 [.ref h1, .ref h2, .ref h0, .ref h3] [(h0, .inl (cy 0, 41, .inl (kc 0))), (h1, .inr (3, [.int 1, .int 0, .int 0, .int 0, .ref h4, .ref h2, .ref h5, .ref h6, .ref h7, .ref h8, .ref h0, .ref h3, .ref h9, .ref h10]))] (fun _ => [(h0, .inl (cy 0, 41, .inl (kc 0))), (h1, .inr (3, [.int 1, .int 0, .int 0, .int 0, .ref h4, .ref h2, .ref h5, .ref h6, .ref h7, .ref h8, .ref h0, .ref h3, .ref h9, .ref h10]))]) := by
  refine zM.of (by decide) (Nat.le_of_ble_eq_true rfl) ?_
  intro p e s m args below meth c ls A hx hb hml hown hts hlk hr hin hl hK hA hT
  have hown : s.vm.findClass "CostBench$Machine" = some m.cls := hown
  have hl : lv_has ls 7 [(0, .ref h1), (1, .ref h2), (2, .ref h0), (3, .ref h3)] := hl
  refine lv_iconst (pc := 0) (v := 0) hx hb dX3_sortBy_0 (by decide) ?_
  refine lv_istore (pc := 1) (lv' := [(4, .int 0), (0, .ref h1), (1, .ref h2), (2, .ref h0), (3, .ref h3)]) hx hb dX3_sortBy_1 hl (by decide) rfl (fun ls hl => ?_)
  refine lv_iconst (pc := 3) (v := 0) hx hb dX3_sortBy_3 (by decide) ?_
  refine lv_istore (pc := 4) (lv' := [(5, .int 0), (4, .int 0), (0, .ref h1), (1, .ref h2), (2, .ref h0), (3, .ref h3)]) hx hb dX3_sortBy_4 hl (by decide) rfl (fun ls hl => ?_)
  refine lv_iload (pc := 6) hx hb dX3_sortBy_6 (lv_at hl 0 rfl) ?_
  refine lv_bipush (pc := 8) (v := 40) hx hb dX3_sortBy_8 (by decide) ?_
  refine zb_icmp_ge_f (pc := 10) (tgt := 73) hx hb dX3_sortBy_10 (by decide) (by decide) ?_
  refine lv_aload_n (pc := 13) hx hb dX3_sortBy_13 rfl (lv_at hl 4 rfl) ?_
  refine lv_iload (pc := 14) hx hb dX3_sortBy_14 (lv_at hl 0 rfl) ?_
  refine lv_iload (pc := 16) hx hb dX3_sortBy_16 (lv_at hl 1 rfl) ?_
  refine z_iast (pc := 18) hx hb hK hT 0 0 rfl rfl (by decide) (by decide) dX3_sortBy_18 (kc 0) (fun j _ => z_upds rfl j) [(h0, .inl (cy 0, 41, .inl (kc 0))), (h1, .inr (3, [.int 1, .int 0, .int 0, .int 0, .ref h4, .ref h2, .ref h5, .ref h6, .ref h7, .ref h8, .ref h0, .ref h3, .ref h9, .ref h10]))] rfl (fun H locs hT => ?_)
  refine lv_iload (pc := 19) hx hb dX3_sortBy_19 (lv_at hl 0 rfl) ?_
  refine lv_aload_n (pc := 21) hx hb dX3_sortBy_21 rfl (lv_at hl 2 rfl) ?_
  refine z_get (pc := 22) hx hb hts hown hK hT 1 3 0 rfl rfl (by decide) rfl w1_50 rfl dX3_sortBy_22 ?_
  refine zb_icmp_lt_t (pc := 25) (tgt := 31) hx hb dX3_sortBy_25 (by decide) (by decide) ?_
  refine lv_iconst (pc := 31) (v := 0) hx hb dX3_sortBy_31 (by decide) ?_
  refine lv_istore (pc := 32) (lv' := [(6, .int 0), (5, .int 0), (4, .int 0), (0, .ref h1), (1, .ref h2), (2, .ref h0), (3, .ref h3)]) hx hb dX3_sortBy_32 hl (by decide) rfl (fun ls hl => ?_)
  refine lv_iload (pc := 34) hx hb dX3_sortBy_34 (lv_at hl 0 rfl) ?_
  refine lv_aload_n (pc := 36) hx hb dX3_sortBy_36 rfl (lv_at hl 3 rfl) ?_
  refine z_get (pc := 37) hx hb hts hown hK hT 1 3 2 rfl rfl (by decide) rfl w1_64 rfl dX3_sortBy_37 ?_
  refine zb_icmp_ge_t (pc := 40) (tgt := 67) hx hb dX3_sortBy_40 (by decide) (by decide) ?_
  refine lv_iinc (pc := 67) (v := 1) (lv' := [(5, .int 1), (6, .int 0), (4, .int 0), (0, .ref h1), (1, .ref h2), (2, .ref h0), (3, .ref h3)]) hx hb dX3_sortBy_67 hl (k := 1) rfl (by decide) (by decide) rfl (fun ls hl => ?_)
  refine lv_goto (pc := 70) (tgt := 6) hx hb dX3_sortBy_70 (by decide) ?_
  refine z_loop (pc := 6) (fun i1 H locs ls => zT G A s.heap H locs [(h0, .inl (cy 0, 41, .inl (kc 0))), (h1, .inr (3, [.int 1, .int 0, .int 0, .int 0, .ref h4, .ref h2, .ref h5, .ref h6, .ref h7, .ref h8, .ref h0, .ref h3, .ref h9, .ref h10]))] ∧ lv_has ls 7 [(5, .int (nI i1)), (6, .int 0), (4, .int 0), (0, .ref h1), (1, .ref h2), (2, .ref h0), (3, .ref h3)]) 1 40 (fun i1 H locs ls hloi1 hhii1 hq ih => ?_) (fun H locs ls hq => ?_) (Nat.le_of_ble_eq_true rfl) ⟨hT, hl⟩
  · obtain ⟨hT, hl⟩ := hq
    refine lv_iload (pc := 6) hx hb dX3_sortBy_6 (lv_at hl 0 rfl) ?_
    refine lv_bipush (pc := 8) (v := 40) hx hb dX3_sortBy_8 (by decide) ?_
    refine zb_icmp_ge_f (pc := 10) (tgt := 73) hx hb dX3_sortBy_10 (by decide) (nI_ge (b := 40) (by omega) (by decide)) ?_
    refine lv_aload_n (pc := 13) hx hb dX3_sortBy_13 rfl (lv_at hl 5 rfl) ?_
    refine lv_iload (pc := 14) hx hb dX3_sortBy_14 (lv_at hl 0 rfl) ?_
    refine lv_iload (pc := 16) hx hb dX3_sortBy_16 (lv_at hl 2 rfl) ?_
    refine z_iast (pc := 18) hx hb hK hT 0 i1 rfl rfl (by omega) (by decide) dX3_sortBy_18 (kc 0) (fun j _ => z_upds rfl j) [(h0, .inl (cy 0, 41, .inl (kc 0))), (h1, .inr (3, [.int 1, .int 0, .int 0, .int 0, .ref h4, .ref h2, .ref h5, .ref h6, .ref h7, .ref h8, .ref h0, .ref h3, .ref h9, .ref h10]))] rfl (fun H locs hT => ?_)
    refine lv_iload (pc := 19) hx hb dX3_sortBy_19 (lv_at hl 0 rfl) ?_
    refine lv_aload_n (pc := 21) hx hb dX3_sortBy_21 rfl (lv_at hl 3 rfl) ?_
    refine z_get (pc := 22) hx hb hts hown hK hT 1 3 0 rfl rfl (by decide) rfl w1_50 rfl dX3_sortBy_22 ?_
    refine zb_icmp_lt_f (pc := 25) (tgt := 31) hx hb dX3_sortBy_25 (by decide) (nI_nlt (b := 1) (by omega) (by omega)) ?_
    refine lv_goto (pc := 28) (tgt := 67) hx hb dX3_sortBy_28 (by decide) ?_
    refine lv_iinc (pc := 67) (v := (nI (i1 + 1))) (lv' := [(5, .int (nI (i1 + 1))), (6, .int 0), (4, .int 0), (0, .ref h1), (1, .ref h2), (2, .ref h0), (3, .ref h3)]) hx hb dX3_sortBy_67 hl (k := 0) rfl (nI_add i1 1) (by decide) rfl (fun ls hl => ?_)
    refine lv_goto (pc := 70) (tgt := 6) hx hb dX3_sortBy_70 (by decide) ?_
    exact ih _ _ _ ⟨hT.sub [0, 1] rfl rfl, lv_sub hl [0, 1, 2, 3, 4, 5, 6] rfl⟩
  · obtain ⟨hT, hl⟩ := hq
    have hl : lv_has ls 7 [(5, .int 40), (6, .int 0), (4, .int 0), (0, .ref h1), (1, .ref h2), (2, .ref h0), (3, .ref h3)] := hl
    refine lv_iload (pc := 6) hx hb dX3_sortBy_6 (lv_at hl 0 rfl) ?_
    refine lv_bipush (pc := 8) (v := 40) hx hb dX3_sortBy_8 (by decide) ?_
    refine zb_icmp_ge_t (pc := 10) (tgt := 73) hx hb dX3_sortBy_10 (by decide) (by decide) ?_
    refine lv_aload_n (pc := 73) hx hb dX3_sortBy_73 rfl (lv_at hl 5 rfl) ?_
    refine lv_bipush (pc := 74) (v := 40) hx hb dX3_sortBy_74 (by decide) ?_
    refine lv_iload (pc := 76) hx hb dX3_sortBy_76 (lv_at hl 2 rfl) ?_
    refine z_iast (pc := 78) hx hb hK hT 0 40 rfl rfl (by decide) (by decide) dX3_sortBy_78 (kc 0) (fun j _ => z_upds rfl j) [(h0, .inl (cy 0, 41, .inl (kc 0))), (h1, .inr (3, [.int 1, .int 0, .int 0, .int 0, .ref h4, .ref h2, .ref h5, .ref h6, .ref h7, .ref h8, .ref h0, .ref h3, .ref h9, .ref h10]))] rfl (fun H locs hT => ?_)
    exact z_vret (pc := 79) hx hb hr hlk hT (fun _ _ => 0) [0, 1] rfl rfl (Nat.le_of_ble_eq_true rfl) (Nat.le_of_ble_eq_true rfl) dX3_sortBy_79
set_option maxHeartbeats 4000000 in
set_option maxRecDepth 100000 in
theorem k7_X3_sortBy (l : Launch) (G : va_G) (cy : Nat → ClassId) (h0 h1 h2 h3 h4 h5 h6 h7 h8 h9 h10 : Nat) : zV l G cy yX3_sortBy cX3_sortBy 7 none 0 0 0 [.ref h1, .ref h2, .ref h0, .ref h3] [(h0, .inl (cy 0, 41, .inl (kc 0))), (h1, .inr (3, [.int 1, .int 0, .int 0, .int 0, .ref h4, .ref h5, .ref h2, .ref h6, .ref h7, .ref h8, .ref h9, .ref h10, .ref h0, .ref h3]))] (fun _ => [(h0, .inl (cy 0, 41, .inl (kc 0))), (h1, .inr (3, [.int 1, .int 0, .int 0, .int 0, .ref h4, .ref h5, .ref h2, .ref h6, .ref h7, .ref h8, .ref h9, .ref h10, .ref h0, .ref h3]))]) := by
  refine zM.of (by decide) (Nat.le_of_ble_eq_true rfl) ?_
  intro p e s m args below meth c ls A hx hb hml hown hts hlk hr hin hl hK hA hT
  have hown : s.vm.findClass "CostBench$Machine" = some m.cls := hown
  have hl : lv_has ls 7 [(0, .ref h1), (1, .ref h2), (2, .ref h0), (3, .ref h3)] := hl
  refine lv_iconst (pc := 0) (v := 0) hx hb dX3_sortBy_0 (by decide) ?_
  refine lv_istore (pc := 1) (lv' := [(4, .int 0), (0, .ref h1), (1, .ref h2), (2, .ref h0), (3, .ref h3)]) hx hb dX3_sortBy_1 hl (by decide) rfl (fun ls hl => ?_)
  refine lv_iconst (pc := 3) (v := 0) hx hb dX3_sortBy_3 (by decide) ?_
  refine lv_istore (pc := 4) (lv' := [(5, .int 0), (4, .int 0), (0, .ref h1), (1, .ref h2), (2, .ref h0), (3, .ref h3)]) hx hb dX3_sortBy_4 hl (by decide) rfl (fun ls hl => ?_)
  refine lv_iload (pc := 6) hx hb dX3_sortBy_6 (lv_at hl 0 rfl) ?_
  refine lv_bipush (pc := 8) (v := 40) hx hb dX3_sortBy_8 (by decide) ?_
  refine zb_icmp_ge_f (pc := 10) (tgt := 73) hx hb dX3_sortBy_10 (by decide) (by decide) ?_
  refine lv_aload_n (pc := 13) hx hb dX3_sortBy_13 rfl (lv_at hl 4 rfl) ?_
  refine lv_iload (pc := 14) hx hb dX3_sortBy_14 (lv_at hl 0 rfl) ?_
  refine lv_iload (pc := 16) hx hb dX3_sortBy_16 (lv_at hl 1 rfl) ?_
  refine z_iast (pc := 18) hx hb hK hT 0 0 rfl rfl (by decide) (by decide) dX3_sortBy_18 (kc 0) (fun j _ => z_upds rfl j) [(h0, .inl (cy 0, 41, .inl (kc 0))), (h1, .inr (3, [.int 1, .int 0, .int 0, .int 0, .ref h4, .ref h5, .ref h2, .ref h6, .ref h7, .ref h8, .ref h9, .ref h10, .ref h0, .ref h3]))] rfl (fun H locs hT => ?_)
  refine lv_iload (pc := 19) hx hb dX3_sortBy_19 (lv_at hl 0 rfl) ?_
  refine lv_aload_n (pc := 21) hx hb dX3_sortBy_21 rfl (lv_at hl 2 rfl) ?_
  refine z_get (pc := 22) hx hb hts hown hK hT 1 3 0 rfl rfl (by decide) rfl w1_50 rfl dX3_sortBy_22 ?_
  refine zb_icmp_lt_t (pc := 25) (tgt := 31) hx hb dX3_sortBy_25 (by decide) (by decide) ?_
  refine lv_iconst (pc := 31) (v := 0) hx hb dX3_sortBy_31 (by decide) ?_
  refine lv_istore (pc := 32) (lv' := [(6, .int 0), (5, .int 0), (4, .int 0), (0, .ref h1), (1, .ref h2), (2, .ref h0), (3, .ref h3)]) hx hb dX3_sortBy_32 hl (by decide) rfl (fun ls hl => ?_)
  refine lv_iload (pc := 34) hx hb dX3_sortBy_34 (lv_at hl 0 rfl) ?_
  refine lv_aload_n (pc := 36) hx hb dX3_sortBy_36 rfl (lv_at hl 3 rfl) ?_
  refine z_get (pc := 37) hx hb hts hown hK hT 1 3 2 rfl rfl (by decide) rfl w1_64 rfl dX3_sortBy_37 ?_
  refine zb_icmp_ge_t (pc := 40) (tgt := 67) hx hb dX3_sortBy_40 (by decide) (by decide) ?_
  refine lv_iinc (pc := 67) (v := 1) (lv' := [(5, .int 1), (6, .int 0), (4, .int 0), (0, .ref h1), (1, .ref h2), (2, .ref h0), (3, .ref h3)]) hx hb dX3_sortBy_67 hl (k := 1) rfl (by decide) (by decide) rfl (fun ls hl => ?_)
  refine lv_goto (pc := 70) (tgt := 6) hx hb dX3_sortBy_70 (by decide) ?_
  refine z_loop (pc := 6) (fun i1 H locs ls => zT G A s.heap H locs [(h0, .inl (cy 0, 41, .inl (kc 0))), (h1, .inr (3, [.int 1, .int 0, .int 0, .int 0, .ref h4, .ref h5, .ref h2, .ref h6, .ref h7, .ref h8, .ref h9, .ref h10, .ref h0, .ref h3]))] ∧ lv_has ls 7 [(5, .int (nI i1)), (6, .int 0), (4, .int 0), (0, .ref h1), (1, .ref h2), (2, .ref h0), (3, .ref h3)]) 1 40 (fun i1 H locs ls hloi1 hhii1 hq ih => ?_) (fun H locs ls hq => ?_) (Nat.le_of_ble_eq_true rfl) ⟨hT, hl⟩
  · obtain ⟨hT, hl⟩ := hq
    refine lv_iload (pc := 6) hx hb dX3_sortBy_6 (lv_at hl 0 rfl) ?_
    refine lv_bipush (pc := 8) (v := 40) hx hb dX3_sortBy_8 (by decide) ?_
    refine zb_icmp_ge_f (pc := 10) (tgt := 73) hx hb dX3_sortBy_10 (by decide) (nI_ge (b := 40) (by omega) (by decide)) ?_
    refine lv_aload_n (pc := 13) hx hb dX3_sortBy_13 rfl (lv_at hl 5 rfl) ?_
    refine lv_iload (pc := 14) hx hb dX3_sortBy_14 (lv_at hl 0 rfl) ?_
    refine lv_iload (pc := 16) hx hb dX3_sortBy_16 (lv_at hl 2 rfl) ?_
    refine z_iast (pc := 18) hx hb hK hT 0 i1 rfl rfl (by omega) (by decide) dX3_sortBy_18 (kc 0) (fun j _ => z_upds rfl j) [(h0, .inl (cy 0, 41, .inl (kc 0))), (h1, .inr (3, [.int 1, .int 0, .int 0, .int 0, .ref h4, .ref h5, .ref h2, .ref h6, .ref h7, .ref h8, .ref h9, .ref h10, .ref h0, .ref h3]))] rfl (fun H locs hT => ?_)
    refine lv_iload (pc := 19) hx hb dX3_sortBy_19 (lv_at hl 0 rfl) ?_
    refine lv_aload_n (pc := 21) hx hb dX3_sortBy_21 rfl (lv_at hl 3 rfl) ?_
    refine z_get (pc := 22) hx hb hts hown hK hT 1 3 0 rfl rfl (by decide) rfl w1_50 rfl dX3_sortBy_22 ?_
    refine zb_icmp_lt_f (pc := 25) (tgt := 31) hx hb dX3_sortBy_25 (by decide) (nI_nlt (b := 1) (by omega) (by omega)) ?_
    refine lv_goto (pc := 28) (tgt := 67) hx hb dX3_sortBy_28 (by decide) ?_
    refine lv_iinc (pc := 67) (v := (nI (i1 + 1))) (lv' := [(5, .int (nI (i1 + 1))), (6, .int 0), (4, .int 0), (0, .ref h1), (1, .ref h2), (2, .ref h0), (3, .ref h3)]) hx hb dX3_sortBy_67 hl (k := 0) rfl (nI_add i1 1) (by decide) rfl (fun ls hl => ?_)
    refine lv_goto (pc := 70) (tgt := 6) hx hb dX3_sortBy_70 (by decide) ?_
    exact ih _ _ _ ⟨hT.sub [0, 1] rfl rfl, lv_sub hl [0, 1, 2, 3, 4, 5, 6] rfl⟩
  · obtain ⟨hT, hl⟩ := hq
    have hl : lv_has ls 7 [(5, .int 40), (6, .int 0), (4, .int 0), (0, .ref h1), (1, .ref h2), (2, .ref h0), (3, .ref h3)] := hl
    refine lv_iload (pc := 6) hx hb dX3_sortBy_6 (lv_at hl 0 rfl) ?_
    refine lv_bipush (pc := 8) (v := 40) hx hb dX3_sortBy_8 (by decide) ?_
    refine zb_icmp_ge_t (pc := 10) (tgt := 73) hx hb dX3_sortBy_10 (by decide) (by decide) ?_
    refine lv_aload_n (pc := 73) hx hb dX3_sortBy_73 rfl (lv_at hl 5 rfl) ?_
    refine lv_bipush (pc := 74) (v := 40) hx hb dX3_sortBy_74 (by decide) ?_
    refine lv_iload (pc := 76) hx hb dX3_sortBy_76 (lv_at hl 2 rfl) ?_
    refine z_iast (pc := 78) hx hb hK hT 0 40 rfl rfl (by decide) (by decide) dX3_sortBy_78 (kc 0) (fun j _ => z_upds rfl j) [(h0, .inl (cy 0, 41, .inl (kc 0))), (h1, .inr (3, [.int 1, .int 0, .int 0, .int 0, .ref h4, .ref h5, .ref h2, .ref h6, .ref h7, .ref h8, .ref h9, .ref h10, .ref h0, .ref h3]))] rfl (fun H locs hT => ?_)
    exact z_vret (pc := 79) hx hb hr hlk hT (fun _ _ => 0) [0, 1] rfl rfl (Nat.le_of_ble_eq_true rfl) (Nat.le_of_ble_eq_true rfl) dX3_sortBy_79
set_option maxHeartbeats 4000000 in
set_option maxRecDepth 100000 in
theorem k8_X3_sortArcs (l : Launch) (G : va_G) (cy : Nat → ClassId) (h0 h1 h2 h3 h4 h5 h6 h7 h8 h9 h10 : Nat) : zV l G cy yX3_sortArcs cX3_sortArcs 1 none 1 0 0 [.ref h0] [(h0, .inr (3, [.int 1, .int 0, .int 0, .int 0, .ref h3, .ref h4, .ref h5, .ref h6, .ref h7, .ref h8, .ref h1, .ref h9, .ref h2, .ref h10])), (h1, .inl (cy 0, 41, .inl (kc 0))), (h2, .inl (cy 0, 41, .inl (kc 0)))] (fun _ => [(h0, .inr (3, [.int 1, .int 0, .int 0, .int 0, .ref h3, .ref h4, .ref h5, .ref h6, .ref h7, .ref h8, .ref h1, .ref h9, .ref h2, .ref h10])), (h1, .inl (cy 0, 41, .inl (kc 0))), (h2, .inl (cy 0, 41, .inl (kc 0)))]) := by
  refine zM.of (by decide) (Nat.le_of_ble_eq_true rfl) ?_
  intro p e s m args below meth c ls A hx hb hml hown hts hlk hr hin hl hK hA hT
  have hown : s.vm.findClass "CostBench$Machine" = some m.cls := hown
  have hl : lv_has ls 1 [(0, .ref h0)] := hl
  refine lv_aload_n (pc := 0) hx hb dX3_sortArcs_0 rfl (lv_at hl 0 rfl) ?_
  refine lv_aload_n (pc := 1) hx hb dX3_sortArcs_1 rfl (lv_at hl 0 rfl) ?_
  refine z_get (pc := 2) hx hb hts hown hK hT 0 3 5 rfl rfl (by decide) rfl w1_80 rfl dX3_sortArcs_2 ?_
  refine lv_aload_n (pc := 5) hx hb dX3_sortArcs_5 rfl (lv_at hl 0 rfl) ?_
  refine z_get (pc := 6) hx hb hts hown hK hT 0 3 10 rfl rfl (by decide) rfl w1_115 rfl dX3_sortArcs_6 ?_
  refine lv_aload_n (pc := 9) hx hb dX3_sortArcs_9 rfl (lv_at hl 0 rfl) ?_
  refine z_get (pc := 10) hx hb hts hown hK hT 0 3 11 rfl rfl (by decide) rfl w1_121 rfl dX3_sortArcs_10 ?_
  refine z_cVV (pc := 13) hx hb hml hown hts hK hA hT lkV_RX3_86 (k6_X3_sortBy l G cy h1 h0 h4 h9 h3 h5 h6 h7 h8 h2 h10) [1, 0] [2] rfl rfl rfl rfl rfl 1 rfl rfl (by decide) rfl hl.1 rfl (Nat.le_of_ble_eq_true rfl) dX3_sortArcs_13 ⟨Nat.le_of_ble_eq_true rfl, Nat.le_of_ble_eq_true rfl⟩ (fun _ => [(h2, .inl (cy 0, 41, .inl (kc 0))), (h1, .inl (cy 0, 41, .inl (kc 0))), (h0, .inr (3, [.int 1, .int 0, .int 0, .int 0, .ref h3, .ref h4, .ref h5, .ref h6, .ref h7, .ref h8, .ref h1, .ref h9, .ref h2, .ref h10]))]) (fun _ => rfl) (fun qs1 H locs hT => ?_)
  refine lv_aload_n (pc := 16) hx hb dX3_sortArcs_16 rfl (lv_at hl 0 rfl) ?_
  refine lv_aload_n (pc := 17) hx hb dX3_sortArcs_17 rfl (lv_at hl 0 rfl) ?_
  refine z_get (pc := 18) hx hb hts hown hK hT 2 3 6 rfl rfl (by decide) rfl w1_86 rfl dX3_sortArcs_18 ?_
  refine lv_aload_n (pc := 21) hx hb dX3_sortArcs_21 rfl (lv_at hl 0 rfl) ?_
  refine z_get (pc := 22) hx hb hts hown hK hT 2 3 12 rfl rfl (by decide) rfl w1_127 rfl dX3_sortArcs_22 ?_
  refine lv_aload_n (pc := 25) hx hb dX3_sortArcs_25 rfl (lv_at hl 0 rfl) ?_
  refine z_get (pc := 26) hx hb hts hown hK hT 2 3 13 rfl rfl (by decide) rfl w1_129 rfl dX3_sortArcs_26 ?_
  refine z_cVV (pc := 29) hx hb hml hown hts hK hA hT lkV_RX3_86 (k7_X3_sortBy l G cy h2 h0 h5 h10 h3 h4 h6 h7 h8 h1 h9) [0, 2] [1] rfl rfl rfl rfl rfl 1 rfl rfl (by decide) rfl hl.1 rfl (Nat.le_of_ble_eq_true rfl) dX3_sortArcs_29 ⟨Nat.le_of_ble_eq_true rfl, Nat.le_of_ble_eq_true rfl⟩ (fun _ => [(h1, .inl (cy 0, 41, .inl (kc 0))), (h2, .inl (cy 0, 41, .inl (kc 0))), (h0, .inr (3, [.int 1, .int 0, .int 0, .int 0, .ref h3, .ref h4, .ref h5, .ref h6, .ref h7, .ref h8, .ref h1, .ref h9, .ref h2, .ref h10]))]) (fun _ => rfl) (fun qs2 H locs hT => ?_)
  exact z_vret (pc := 32) hx hb hr hlk hT (fun _ _ => 0) [2, 0, 1] rfl rfl (Nat.le_of_ble_eq_true rfl) (Nat.le_of_ble_eq_true rfl) dX3_sortArcs_32
set_option maxHeartbeats 4000000 in
set_option maxRecDepth 100000 in
theorem k9_X3_copyFrom (l : Launch) (G : va_G) (cy : Nat → ClassId) (h0 h1 h2 h3 h4 h5 h6 h7 h8 h9 h10 h11 h12 h13 h14 h15 h16 h17 h18 h19 h20 h21 : Nat) : zV l G cy yX3_copyFrom cX3_copyFrom 2 none 0 0 0 [.ref h1, .ref h0] [(h0, .inr (3, [.int 1, .int 0, .int 0, .int 0, .ref h2, .ref h4, .ref h6, .ref h8, .ref h10, .ref h12, .ref h14, .ref h16, .ref h18, .ref h20])), (h1, .inr (3, [.int 1, .int 0, .int 0, .int 0, .ref h3, .ref h5, .ref h7, .ref h9, .ref h11, .ref h13, .ref h15, .ref h17, .ref h19, .ref h21])), (h2, .inl (cy 0, 40, .inl (kc (-1)))), (h3, .inl (cy 0, 40, .inl (kc (-1)))), (h4, .inl (cy 0, 120, .inl (kc 0))), (h5, .inl (cy 0, 120, .inl (kc 0))), (h6, .inl (cy 0, 120, .inl (kc 0))), (h7, .inl (cy 0, 120, .inl (kc 0))), (h8, .inl (cy 0, 120, .inl (kc 0))), (h9, .inl (cy 0, 120, .inl (kc 0))), (h10, .inl (cy 0, 120, .inl (kc 0))), (h11, .inl (cy 0, 120, .inl (kc 0))), (h12, .inl (cy 0, 120, .inl (kc 0))), (h13, .inl (cy 0, 120, .inl (kc 0))), (h14, .inl (cy 0, 41, .inl (kc 0))), (h15, .inl (cy 0, 41, .inl (kc 0))), (h16, .inl (cy 0, 120, .inl (kc 0))), (h17, .inl (cy 0, 120, .inl (kc 0))), (h18, .inl (cy 0, 41, .inl (kc 0))), (h19, .inl (cy 0, 41, .inl (kc 0))), (h20, .inl (cy 0, 120, .inl (kc 0))), (h21, .inl (cy 0, 120, .inl (kc 0)))] (fun _ => [(h0, .inr (3, [.int 1, .int 0, .int 0, .int 0, .ref h2, .ref h4, .ref h6, .ref h8, .ref h10, .ref h12, .ref h14, .ref h16, .ref h18, .ref h20])), (h1, .inr (3, [.int 1, .int 0, .int 0, .int 0, .ref h3, .ref h5, .ref h7, .ref h9, .ref h11, .ref h13, .ref h15, .ref h17, .ref h19, .ref h21])), (h2, .inl (cy 0, 40, .inl (kc (-1)))), (h3, .inl (cy 0, 40, .inl (kc (-1)))), (h4, .inl (cy 0, 120, .inl (kc 0))), (h5, .inl (cy 0, 120, .inl (kc 0))), (h6, .inl (cy 0, 120, .inl (kc 0))), (h7, .inl (cy 0, 120, .inl (kc 0))), (h8, .inl (cy 0, 120, .inl (kc 0))), (h9, .inl (cy 0, 120, .inl (kc 0))), (h10, .inl (cy 0, 120, .inl (kc 0))), (h11, .inl (cy 0, 120, .inl (kc 0))), (h12, .inl (cy 0, 120, .inl (kc 0))), (h13, .inl (cy 0, 120, .inl (kc 0))), (h14, .inl (cy 0, 41, .inl (kc 0))), (h15, .inl (cy 0, 41, .inl (kc 0))), (h16, .inl (cy 0, 120, .inl (kc 0))), (h17, .inl (cy 0, 120, .inl (kc 0))), (h18, .inl (cy 0, 41, .inl (kc 0))), (h19, .inl (cy 0, 41, .inl (kc 0))), (h20, .inl (cy 0, 120, .inl (kc 0))), (h21, .inl (cy 0, 120, .inl (kc 0)))]) := by
  refine zM.of (by decide) (Nat.le_of_ble_eq_true rfl) ?_
  intro p e s m args below meth c ls A hx hb hml hown hts hlk hr hin hl hK hA hT
  have hown : s.vm.findClass "CostBench$Machine" = some m.cls := hown
  have hl : lv_has ls 2 [(0, .ref h1), (1, .ref h0)] := hl
  refine lv_aload_n (pc := 0) hx hb dX3_copyFrom_0 rfl (lv_at hl 0 rfl) ?_
  refine lv_aload_n (pc := 1) hx hb dX3_copyFrom_1 rfl (lv_at hl 1 rfl) ?_
  refine z_get (pc := 2) hx hb hts hown hK hT 0 3 0 rfl rfl (by decide) rfl w1_50 rfl dX3_copyFrom_2 ?_
  refine z_put (pc := 5) (ty := .int) hx hb hts hown hK hT 1 3 0 (by decide +kernel) rfl rfl rfl rfl (by decide) rfl w1_50 (Nat.le_of_ble_eq_true rfl) dX3_copyFrom_5 [(h0, .inr (3, [.int 1, .int 0, .int 0, .int 0, .ref h2, .ref h4, .ref h6, .ref h8, .ref h10, .ref h12, .ref h14, .ref h16, .ref h18, .ref h20])), (h1, .inr (3, [.int 1, .int 0, .int 0, .int 0, .ref h3, .ref h5, .ref h7, .ref h9, .ref h11, .ref h13, .ref h15, .ref h17, .ref h19, .ref h21])), (h2, .inl (cy 0, 40, .inl (kc (-1)))), (h3, .inl (cy 0, 40, .inl (kc (-1)))), (h4, .inl (cy 0, 120, .inl (kc 0))), (h5, .inl (cy 0, 120, .inl (kc 0))), (h6, .inl (cy 0, 120, .inl (kc 0))), (h7, .inl (cy 0, 120, .inl (kc 0))), (h8, .inl (cy 0, 120, .inl (kc 0))), (h9, .inl (cy 0, 120, .inl (kc 0))), (h10, .inl (cy 0, 120, .inl (kc 0))), (h11, .inl (cy 0, 120, .inl (kc 0))), (h12, .inl (cy 0, 120, .inl (kc 0))), (h13, .inl (cy 0, 120, .inl (kc 0))), (h14, .inl (cy 0, 41, .inl (kc 0))), (h15, .inl (cy 0, 41, .inl (kc 0))), (h16, .inl (cy 0, 120, .inl (kc 0))), (h17, .inl (cy 0, 120, .inl (kc 0))), (h18, .inl (cy 0, 41, .inl (kc 0))), (h19, .inl (cy 0, 41, .inl (kc 0))), (h20, .inl (cy 0, 120, .inl (kc 0))), (h21, .inl (cy 0, 120, .inl (kc 0)))] rfl (fun H locs hT => ?_)
  refine lv_aload_n (pc := 8) hx hb dX3_copyFrom_8 rfl (lv_at hl 0 rfl) ?_
  refine lv_aload_n (pc := 9) hx hb dX3_copyFrom_9 rfl (lv_at hl 1 rfl) ?_
  refine z_get (pc := 10) hx hb hts hown hK hT 0 3 1 rfl rfl (by decide) rfl w1_58 rfl dX3_copyFrom_10 ?_
  refine z_put (pc := 13) (ty := .int) hx hb hts hown hK hT 1 3 1 (by decide +kernel) rfl rfl rfl rfl (by decide) rfl w1_58 (Nat.le_of_ble_eq_true rfl) dX3_copyFrom_13 [(h0, .inr (3, [.int 1, .int 0, .int 0, .int 0, .ref h2, .ref h4, .ref h6, .ref h8, .ref h10, .ref h12, .ref h14, .ref h16, .ref h18, .ref h20])), (h1, .inr (3, [.int 1, .int 0, .int 0, .int 0, .ref h3, .ref h5, .ref h7, .ref h9, .ref h11, .ref h13, .ref h15, .ref h17, .ref h19, .ref h21])), (h2, .inl (cy 0, 40, .inl (kc (-1)))), (h3, .inl (cy 0, 40, .inl (kc (-1)))), (h4, .inl (cy 0, 120, .inl (kc 0))), (h5, .inl (cy 0, 120, .inl (kc 0))), (h6, .inl (cy 0, 120, .inl (kc 0))), (h7, .inl (cy 0, 120, .inl (kc 0))), (h8, .inl (cy 0, 120, .inl (kc 0))), (h9, .inl (cy 0, 120, .inl (kc 0))), (h10, .inl (cy 0, 120, .inl (kc 0))), (h11, .inl (cy 0, 120, .inl (kc 0))), (h12, .inl (cy 0, 120, .inl (kc 0))), (h13, .inl (cy 0, 120, .inl (kc 0))), (h14, .inl (cy 0, 41, .inl (kc 0))), (h15, .inl (cy 0, 41, .inl (kc 0))), (h16, .inl (cy 0, 120, .inl (kc 0))), (h17, .inl (cy 0, 120, .inl (kc 0))), (h18, .inl (cy 0, 41, .inl (kc 0))), (h19, .inl (cy 0, 41, .inl (kc 0))), (h20, .inl (cy 0, 120, .inl (kc 0))), (h21, .inl (cy 0, 120, .inl (kc 0)))] rfl (fun H locs hT => ?_)
  refine lv_aload_n (pc := 16) hx hb dX3_copyFrom_16 rfl (lv_at hl 0 rfl) ?_
  refine lv_aload_n (pc := 17) hx hb dX3_copyFrom_17 rfl (lv_at hl 1 rfl) ?_
  refine z_get (pc := 18) hx hb hts hown hK hT 0 3 2 rfl rfl (by decide) rfl w1_64 rfl dX3_copyFrom_18 ?_
  refine z_put (pc := 21) (ty := .int) hx hb hts hown hK hT 1 3 2 (by decide +kernel) rfl rfl rfl rfl (by decide) rfl w1_64 (Nat.le_of_ble_eq_true rfl) dX3_copyFrom_21 [(h0, .inr (3, [.int 1, .int 0, .int 0, .int 0, .ref h2, .ref h4, .ref h6, .ref h8, .ref h10, .ref h12, .ref h14, .ref h16, .ref h18, .ref h20])), (h1, .inr (3, [.int 1, .int 0, .int 0, .int 0, .ref h3, .ref h5, .ref h7, .ref h9, .ref h11, .ref h13, .ref h15, .ref h17, .ref h19, .ref h21])), (h2, .inl (cy 0, 40, .inl (kc (-1)))), (h3, .inl (cy 0, 40, .inl (kc (-1)))), (h4, .inl (cy 0, 120, .inl (kc 0))), (h5, .inl (cy 0, 120, .inl (kc 0))), (h6, .inl (cy 0, 120, .inl (kc 0))), (h7, .inl (cy 0, 120, .inl (kc 0))), (h8, .inl (cy 0, 120, .inl (kc 0))), (h9, .inl (cy 0, 120, .inl (kc 0))), (h10, .inl (cy 0, 120, .inl (kc 0))), (h11, .inl (cy 0, 120, .inl (kc 0))), (h12, .inl (cy 0, 120, .inl (kc 0))), (h13, .inl (cy 0, 120, .inl (kc 0))), (h14, .inl (cy 0, 41, .inl (kc 0))), (h15, .inl (cy 0, 41, .inl (kc 0))), (h16, .inl (cy 0, 120, .inl (kc 0))), (h17, .inl (cy 0, 120, .inl (kc 0))), (h18, .inl (cy 0, 41, .inl (kc 0))), (h19, .inl (cy 0, 41, .inl (kc 0))), (h20, .inl (cy 0, 120, .inl (kc 0))), (h21, .inl (cy 0, 120, .inl (kc 0)))] rfl (fun H locs hT => ?_)
  refine lv_aload_n (pc := 24) hx hb dX3_copyFrom_24 rfl (lv_at hl 0 rfl) ?_
  refine lv_aload_n (pc := 25) hx hb dX3_copyFrom_25 rfl (lv_at hl 1 rfl) ?_
  refine z_get (pc := 26) hx hb hts hown hK hT 0 3 3 rfl rfl (by decide) rfl w1_70 rfl dX3_copyFrom_26 ?_
  refine z_put (pc := 29) (ty := .boolean) hx hb hts hown hK hT 1 3 3 (by decide +kernel) rfl rfl rfl rfl (by decide) rfl w1_70 (Nat.le_of_ble_eq_true rfl) dX3_copyFrom_29 [(h0, .inr (3, [.int 1, .int 0, .int 0, .int 0, .ref h2, .ref h4, .ref h6, .ref h8, .ref h10, .ref h12, .ref h14, .ref h16, .ref h18, .ref h20])), (h1, .inr (3, [.int 1, .int 0, .int 0, .int 0, .ref h3, .ref h5, .ref h7, .ref h9, .ref h11, .ref h13, .ref h15, .ref h17, .ref h19, .ref h21])), (h2, .inl (cy 0, 40, .inl (kc (-1)))), (h3, .inl (cy 0, 40, .inl (kc (-1)))), (h4, .inl (cy 0, 120, .inl (kc 0))), (h5, .inl (cy 0, 120, .inl (kc 0))), (h6, .inl (cy 0, 120, .inl (kc 0))), (h7, .inl (cy 0, 120, .inl (kc 0))), (h8, .inl (cy 0, 120, .inl (kc 0))), (h9, .inl (cy 0, 120, .inl (kc 0))), (h10, .inl (cy 0, 120, .inl (kc 0))), (h11, .inl (cy 0, 120, .inl (kc 0))), (h12, .inl (cy 0, 120, .inl (kc 0))), (h13, .inl (cy 0, 120, .inl (kc 0))), (h14, .inl (cy 0, 41, .inl (kc 0))), (h15, .inl (cy 0, 41, .inl (kc 0))), (h16, .inl (cy 0, 120, .inl (kc 0))), (h17, .inl (cy 0, 120, .inl (kc 0))), (h18, .inl (cy 0, 41, .inl (kc 0))), (h19, .inl (cy 0, 41, .inl (kc 0))), (h20, .inl (cy 0, 120, .inl (kc 0))), (h21, .inl (cy 0, 120, .inl (kc 0)))] rfl (fun H locs hT => ?_)
  refine lv_aload_n (pc := 32) hx hb dX3_copyFrom_32 rfl (lv_at hl 1 rfl) ?_
  refine z_get (pc := 33) hx hb hts hown hK hT 0 3 4 rfl rfl (by decide) rfl w1_74 rfl dX3_copyFrom_33 ?_
  refine lv_iconst (pc := 36) (v := 0) hx hb dX3_copyFrom_36 (by decide) ?_
  refine lv_aload_n (pc := 37) hx hb dX3_copyFrom_37 rfl (lv_at hl 0 rfl) ?_
  refine z_get (pc := 38) hx hb hts hown hK hT 1 3 4 rfl rfl (by decide) rfl w1_74 rfl dX3_copyFrom_38 ?_
  refine lv_iconst (pc := 41) (v := 0) hx hb dX3_copyFrom_41 (by decide) ?_
  refine lv_bipush (pc := 42) (v := 40) hx hb dX3_copyFrom_42 (by decide) ?_
  refine z_copyI (pc := 44) hx hb hml hown hts w3_83 hK hT 2 3 rfl rfl 0 0 40 rfl rfl rfl (Nat.le_of_ble_eq_true rfl) (Nat.le_of_ble_eq_true rfl) (Nat.le_of_ble_eq_true rfl) (Nat.le_of_ble_eq_true rfl) (kc (-1)) (fun t h => z_cpyA t h) hl.1 (Nat.le_of_ble_eq_true rfl) dX3_copyFrom_44 [(h0, .inr (3, [.int 1, .int 0, .int 0, .int 0, .ref h2, .ref h4, .ref h6, .ref h8, .ref h10, .ref h12, .ref h14, .ref h16, .ref h18, .ref h20])), (h1, .inr (3, [.int 1, .int 0, .int 0, .int 0, .ref h3, .ref h5, .ref h7, .ref h9, .ref h11, .ref h13, .ref h15, .ref h17, .ref h19, .ref h21])), (h2, .inl (cy 0, 40, .inl (kc (-1)))), (h3, .inl (cy 0, 40, .inl (kc (-1)))), (h4, .inl (cy 0, 120, .inl (kc 0))), (h5, .inl (cy 0, 120, .inl (kc 0))), (h6, .inl (cy 0, 120, .inl (kc 0))), (h7, .inl (cy 0, 120, .inl (kc 0))), (h8, .inl (cy 0, 120, .inl (kc 0))), (h9, .inl (cy 0, 120, .inl (kc 0))), (h10, .inl (cy 0, 120, .inl (kc 0))), (h11, .inl (cy 0, 120, .inl (kc 0))), (h12, .inl (cy 0, 120, .inl (kc 0))), (h13, .inl (cy 0, 120, .inl (kc 0))), (h14, .inl (cy 0, 41, .inl (kc 0))), (h15, .inl (cy 0, 41, .inl (kc 0))), (h16, .inl (cy 0, 120, .inl (kc 0))), (h17, .inl (cy 0, 120, .inl (kc 0))), (h18, .inl (cy 0, 41, .inl (kc 0))), (h19, .inl (cy 0, 41, .inl (kc 0))), (h20, .inl (cy 0, 120, .inl (kc 0))), (h21, .inl (cy 0, 120, .inl (kc 0)))] rfl (fun H locs hT => ?_)
  refine lv_aload_n (pc := 47) hx hb dX3_copyFrom_47 rfl (lv_at hl 1 rfl) ?_
  refine z_get (pc := 48) hx hb hts hown hK hT 0 3 5 rfl rfl (by decide) rfl w1_80 rfl dX3_copyFrom_48 ?_
  refine lv_iconst (pc := 51) (v := 0) hx hb dX3_copyFrom_51 (by decide) ?_
  refine lv_aload_n (pc := 52) hx hb dX3_copyFrom_52 rfl (lv_at hl 0 rfl) ?_
  refine z_get (pc := 53) hx hb hts hown hK hT 1 3 5 rfl rfl (by decide) rfl w1_80 rfl dX3_copyFrom_53 ?_
  refine lv_iconst (pc := 56) (v := 0) hx hb dX3_copyFrom_56 (by decide) ?_
  refine lv_aload_n (pc := 57) hx hb dX3_copyFrom_57 rfl (lv_at hl 0 rfl) ?_
  refine z_get (pc := 58) hx hb hts hown hK hT 1 3 2 rfl rfl (by decide) rfl w1_64 rfl dX3_copyFrom_58 ?_
  refine z_copyI (pc := 61) hx hb hml hown hts w3_83 hK hT 4 5 rfl rfl 0 0 0 rfl rfl rfl (Nat.le_of_ble_eq_true rfl) (Nat.le_of_ble_eq_true rfl) (Nat.le_of_ble_eq_true rfl) (Nat.le_of_ble_eq_true rfl) (kc 0) (fun t _ => z_cpy0 t) hl.1 (Nat.le_of_ble_eq_true rfl) dX3_copyFrom_61 [(h0, .inr (3, [.int 1, .int 0, .int 0, .int 0, .ref h2, .ref h4, .ref h6, .ref h8, .ref h10, .ref h12, .ref h14, .ref h16, .ref h18, .ref h20])), (h1, .inr (3, [.int 1, .int 0, .int 0, .int 0, .ref h3, .ref h5, .ref h7, .ref h9, .ref h11, .ref h13, .ref h15, .ref h17, .ref h19, .ref h21])), (h2, .inl (cy 0, 40, .inl (kc (-1)))), (h3, .inl (cy 0, 40, .inl (kc (-1)))), (h4, .inl (cy 0, 120, .inl (kc 0))), (h5, .inl (cy 0, 120, .inl (kc 0))), (h6, .inl (cy 0, 120, .inl (kc 0))), (h7, .inl (cy 0, 120, .inl (kc 0))), (h8, .inl (cy 0, 120, .inl (kc 0))), (h9, .inl (cy 0, 120, .inl (kc 0))), (h10, .inl (cy 0, 120, .inl (kc 0))), (h11, .inl (cy 0, 120, .inl (kc 0))), (h12, .inl (cy 0, 120, .inl (kc 0))), (h13, .inl (cy 0, 120, .inl (kc 0))), (h14, .inl (cy 0, 41, .inl (kc 0))), (h15, .inl (cy 0, 41, .inl (kc 0))), (h16, .inl (cy 0, 120, .inl (kc 0))), (h17, .inl (cy 0, 120, .inl (kc 0))), (h18, .inl (cy 0, 41, .inl (kc 0))), (h19, .inl (cy 0, 41, .inl (kc 0))), (h20, .inl (cy 0, 120, .inl (kc 0))), (h21, .inl (cy 0, 120, .inl (kc 0)))] rfl (fun H locs hT => ?_)
  refine lv_aload_n (pc := 64) hx hb dX3_copyFrom_64 rfl (lv_at hl 1 rfl) ?_
  refine z_get (pc := 65) hx hb hts hown hK hT 0 3 6 rfl rfl (by decide) rfl w1_86 rfl dX3_copyFrom_65 ?_
  refine lv_iconst (pc := 68) (v := 0) hx hb dX3_copyFrom_68 (by decide) ?_
  refine lv_aload_n (pc := 69) hx hb dX3_copyFrom_69 rfl (lv_at hl 0 rfl) ?_
  refine z_get (pc := 70) hx hb hts hown hK hT 1 3 6 rfl rfl (by decide) rfl w1_86 rfl dX3_copyFrom_70 ?_
  refine lv_iconst (pc := 73) (v := 0) hx hb dX3_copyFrom_73 (by decide) ?_
  refine lv_aload_n (pc := 74) hx hb dX3_copyFrom_74 rfl (lv_at hl 0 rfl) ?_
  refine z_get (pc := 75) hx hb hts hown hK hT 1 3 2 rfl rfl (by decide) rfl w1_64 rfl dX3_copyFrom_75 ?_
  refine z_copyI (pc := 78) hx hb hml hown hts w3_83 hK hT 6 7 rfl rfl 0 0 0 rfl rfl rfl (Nat.le_of_ble_eq_true rfl) (Nat.le_of_ble_eq_true rfl) (Nat.le_of_ble_eq_true rfl) (Nat.le_of_ble_eq_true rfl) (kc 0) (fun t _ => z_cpy0 t) hl.1 (Nat.le_of_ble_eq_true rfl) dX3_copyFrom_78 [(h0, .inr (3, [.int 1, .int 0, .int 0, .int 0, .ref h2, .ref h4, .ref h6, .ref h8, .ref h10, .ref h12, .ref h14, .ref h16, .ref h18, .ref h20])), (h1, .inr (3, [.int 1, .int 0, .int 0, .int 0, .ref h3, .ref h5, .ref h7, .ref h9, .ref h11, .ref h13, .ref h15, .ref h17, .ref h19, .ref h21])), (h2, .inl (cy 0, 40, .inl (kc (-1)))), (h3, .inl (cy 0, 40, .inl (kc (-1)))), (h4, .inl (cy 0, 120, .inl (kc 0))), (h5, .inl (cy 0, 120, .inl (kc 0))), (h6, .inl (cy 0, 120, .inl (kc 0))), (h7, .inl (cy 0, 120, .inl (kc 0))), (h8, .inl (cy 0, 120, .inl (kc 0))), (h9, .inl (cy 0, 120, .inl (kc 0))), (h10, .inl (cy 0, 120, .inl (kc 0))), (h11, .inl (cy 0, 120, .inl (kc 0))), (h12, .inl (cy 0, 120, .inl (kc 0))), (h13, .inl (cy 0, 120, .inl (kc 0))), (h14, .inl (cy 0, 41, .inl (kc 0))), (h15, .inl (cy 0, 41, .inl (kc 0))), (h16, .inl (cy 0, 120, .inl (kc 0))), (h17, .inl (cy 0, 120, .inl (kc 0))), (h18, .inl (cy 0, 41, .inl (kc 0))), (h19, .inl (cy 0, 41, .inl (kc 0))), (h20, .inl (cy 0, 120, .inl (kc 0))), (h21, .inl (cy 0, 120, .inl (kc 0)))] rfl (fun H locs hT => ?_)
  refine lv_aload_n (pc := 81) hx hb dX3_copyFrom_81 rfl (lv_at hl 1 rfl) ?_
  refine z_get (pc := 82) hx hb hts hown hK hT 0 3 7 rfl rfl (by decide) rfl w1_94 rfl dX3_copyFrom_82 ?_
  refine lv_iconst (pc := 85) (v := 0) hx hb dX3_copyFrom_85 (by decide) ?_
  refine lv_aload_n (pc := 86) hx hb dX3_copyFrom_86 rfl (lv_at hl 0 rfl) ?_
  refine z_get (pc := 87) hx hb hts hown hK hT 1 3 7 rfl rfl (by decide) rfl w1_94 rfl dX3_copyFrom_87 ?_
  refine lv_iconst (pc := 90) (v := 0) hx hb dX3_copyFrom_90 (by decide) ?_
  refine lv_aload_n (pc := 91) hx hb dX3_copyFrom_91 rfl (lv_at hl 0 rfl) ?_
  refine z_get (pc := 92) hx hb hts hown hK hT 1 3 2 rfl rfl (by decide) rfl w1_64 rfl dX3_copyFrom_92 ?_
  refine z_copyI (pc := 95) hx hb hml hown hts w3_83 hK hT 8 9 rfl rfl 0 0 0 rfl rfl rfl (Nat.le_of_ble_eq_true rfl) (Nat.le_of_ble_eq_true rfl) (Nat.le_of_ble_eq_true rfl) (Nat.le_of_ble_eq_true rfl) (kc 0) (fun t _ => z_cpy0 t) hl.1 (Nat.le_of_ble_eq_true rfl) dX3_copyFrom_95 [(h0, .inr (3, [.int 1, .int 0, .int 0, .int 0, .ref h2, .ref h4, .ref h6, .ref h8, .ref h10, .ref h12, .ref h14, .ref h16, .ref h18, .ref h20])), (h1, .inr (3, [.int 1, .int 0, .int 0, .int 0, .ref h3, .ref h5, .ref h7, .ref h9, .ref h11, .ref h13, .ref h15, .ref h17, .ref h19, .ref h21])), (h2, .inl (cy 0, 40, .inl (kc (-1)))), (h3, .inl (cy 0, 40, .inl (kc (-1)))), (h4, .inl (cy 0, 120, .inl (kc 0))), (h5, .inl (cy 0, 120, .inl (kc 0))), (h6, .inl (cy 0, 120, .inl (kc 0))), (h7, .inl (cy 0, 120, .inl (kc 0))), (h8, .inl (cy 0, 120, .inl (kc 0))), (h9, .inl (cy 0, 120, .inl (kc 0))), (h10, .inl (cy 0, 120, .inl (kc 0))), (h11, .inl (cy 0, 120, .inl (kc 0))), (h12, .inl (cy 0, 120, .inl (kc 0))), (h13, .inl (cy 0, 120, .inl (kc 0))), (h14, .inl (cy 0, 41, .inl (kc 0))), (h15, .inl (cy 0, 41, .inl (kc 0))), (h16, .inl (cy 0, 120, .inl (kc 0))), (h17, .inl (cy 0, 120, .inl (kc 0))), (h18, .inl (cy 0, 41, .inl (kc 0))), (h19, .inl (cy 0, 41, .inl (kc 0))), (h20, .inl (cy 0, 120, .inl (kc 0))), (h21, .inl (cy 0, 120, .inl (kc 0)))] rfl (fun H locs hT => ?_)
  refine lv_aload_n (pc := 98) hx hb dX3_copyFrom_98 rfl (lv_at hl 1 rfl) ?_
  refine z_get (pc := 99) hx hb hts hown hK hT 0 3 8 rfl rfl (by decide) rfl w1_102 rfl dX3_copyFrom_99 ?_
  refine lv_iconst (pc := 102) (v := 0) hx hb dX3_copyFrom_102 (by decide) ?_
  refine lv_aload_n (pc := 103) hx hb dX3_copyFrom_103 rfl (lv_at hl 0 rfl) ?_
  refine z_get (pc := 104) hx hb hts hown hK hT 1 3 8 rfl rfl (by decide) rfl w1_102 rfl dX3_copyFrom_104 ?_
  refine lv_iconst (pc := 107) (v := 0) hx hb dX3_copyFrom_107 (by decide) ?_
  refine lv_aload_n (pc := 108) hx hb dX3_copyFrom_108 rfl (lv_at hl 0 rfl) ?_
  refine z_get (pc := 109) hx hb hts hown hK hT 1 3 2 rfl rfl (by decide) rfl w1_64 rfl dX3_copyFrom_109 ?_
  refine z_copyI (pc := 112) hx hb hml hown hts w3_83 hK hT 10 11 rfl rfl 0 0 0 rfl rfl rfl (Nat.le_of_ble_eq_true rfl) (Nat.le_of_ble_eq_true rfl) (Nat.le_of_ble_eq_true rfl) (Nat.le_of_ble_eq_true rfl) (kc 0) (fun t _ => z_cpy0 t) hl.1 (Nat.le_of_ble_eq_true rfl) dX3_copyFrom_112 [(h0, .inr (3, [.int 1, .int 0, .int 0, .int 0, .ref h2, .ref h4, .ref h6, .ref h8, .ref h10, .ref h12, .ref h14, .ref h16, .ref h18, .ref h20])), (h1, .inr (3, [.int 1, .int 0, .int 0, .int 0, .ref h3, .ref h5, .ref h7, .ref h9, .ref h11, .ref h13, .ref h15, .ref h17, .ref h19, .ref h21])), (h2, .inl (cy 0, 40, .inl (kc (-1)))), (h3, .inl (cy 0, 40, .inl (kc (-1)))), (h4, .inl (cy 0, 120, .inl (kc 0))), (h5, .inl (cy 0, 120, .inl (kc 0))), (h6, .inl (cy 0, 120, .inl (kc 0))), (h7, .inl (cy 0, 120, .inl (kc 0))), (h8, .inl (cy 0, 120, .inl (kc 0))), (h9, .inl (cy 0, 120, .inl (kc 0))), (h10, .inl (cy 0, 120, .inl (kc 0))), (h11, .inl (cy 0, 120, .inl (kc 0))), (h12, .inl (cy 0, 120, .inl (kc 0))), (h13, .inl (cy 0, 120, .inl (kc 0))), (h14, .inl (cy 0, 41, .inl (kc 0))), (h15, .inl (cy 0, 41, .inl (kc 0))), (h16, .inl (cy 0, 120, .inl (kc 0))), (h17, .inl (cy 0, 120, .inl (kc 0))), (h18, .inl (cy 0, 41, .inl (kc 0))), (h19, .inl (cy 0, 41, .inl (kc 0))), (h20, .inl (cy 0, 120, .inl (kc 0))), (h21, .inl (cy 0, 120, .inl (kc 0)))] rfl (fun H locs hT => ?_)
  refine lv_aload_n (pc := 115) hx hb dX3_copyFrom_115 rfl (lv_at hl 1 rfl) ?_
  refine z_get (pc := 116) hx hb hts hown hK hT 0 3 9 rfl rfl (by decide) rfl w1_107 rfl dX3_copyFrom_116 ?_
  refine lv_iconst (pc := 119) (v := 0) hx hb dX3_copyFrom_119 (by decide) ?_
  refine lv_aload_n (pc := 120) hx hb dX3_copyFrom_120 rfl (lv_at hl 0 rfl) ?_
  refine z_get (pc := 121) hx hb hts hown hK hT 1 3 9 rfl rfl (by decide) rfl w1_107 rfl dX3_copyFrom_121 ?_
  refine lv_iconst (pc := 124) (v := 0) hx hb dX3_copyFrom_124 (by decide) ?_
  refine lv_aload_n (pc := 125) hx hb dX3_copyFrom_125 rfl (lv_at hl 0 rfl) ?_
  refine z_get (pc := 126) hx hb hts hown hK hT 1 3 2 rfl rfl (by decide) rfl w1_64 rfl dX3_copyFrom_126 ?_
  refine z_copyI (pc := 129) hx hb hml hown hts w3_83 hK hT 12 13 rfl rfl 0 0 0 rfl rfl rfl (Nat.le_of_ble_eq_true rfl) (Nat.le_of_ble_eq_true rfl) (Nat.le_of_ble_eq_true rfl) (Nat.le_of_ble_eq_true rfl) (kc 0) (fun t _ => z_cpy0 t) hl.1 (Nat.le_of_ble_eq_true rfl) dX3_copyFrom_129 [(h0, .inr (3, [.int 1, .int 0, .int 0, .int 0, .ref h2, .ref h4, .ref h6, .ref h8, .ref h10, .ref h12, .ref h14, .ref h16, .ref h18, .ref h20])), (h1, .inr (3, [.int 1, .int 0, .int 0, .int 0, .ref h3, .ref h5, .ref h7, .ref h9, .ref h11, .ref h13, .ref h15, .ref h17, .ref h19, .ref h21])), (h2, .inl (cy 0, 40, .inl (kc (-1)))), (h3, .inl (cy 0, 40, .inl (kc (-1)))), (h4, .inl (cy 0, 120, .inl (kc 0))), (h5, .inl (cy 0, 120, .inl (kc 0))), (h6, .inl (cy 0, 120, .inl (kc 0))), (h7, .inl (cy 0, 120, .inl (kc 0))), (h8, .inl (cy 0, 120, .inl (kc 0))), (h9, .inl (cy 0, 120, .inl (kc 0))), (h10, .inl (cy 0, 120, .inl (kc 0))), (h11, .inl (cy 0, 120, .inl (kc 0))), (h12, .inl (cy 0, 120, .inl (kc 0))), (h13, .inl (cy 0, 120, .inl (kc 0))), (h14, .inl (cy 0, 41, .inl (kc 0))), (h15, .inl (cy 0, 41, .inl (kc 0))), (h16, .inl (cy 0, 120, .inl (kc 0))), (h17, .inl (cy 0, 120, .inl (kc 0))), (h18, .inl (cy 0, 41, .inl (kc 0))), (h19, .inl (cy 0, 41, .inl (kc 0))), (h20, .inl (cy 0, 120, .inl (kc 0))), (h21, .inl (cy 0, 120, .inl (kc 0)))] rfl (fun H locs hT => ?_)
  refine lv_aload_n (pc := 132) hx hb dX3_copyFrom_132 rfl (lv_at hl 1 rfl) ?_
  refine z_get (pc := 133) hx hb hts hown hK hT 0 3 10 rfl rfl (by decide) rfl w1_115 rfl dX3_copyFrom_133 ?_
  refine lv_iconst (pc := 136) (v := 0) hx hb dX3_copyFrom_136 (by decide) ?_
  refine lv_aload_n (pc := 137) hx hb dX3_copyFrom_137 rfl (lv_at hl 0 rfl) ?_
  refine z_get (pc := 138) hx hb hts hown hK hT 1 3 10 rfl rfl (by decide) rfl w1_115 rfl dX3_copyFrom_138 ?_
  refine lv_iconst (pc := 141) (v := 0) hx hb dX3_copyFrom_141 (by decide) ?_
  refine lv_bipush (pc := 142) (v := 41) hx hb dX3_copyFrom_142 (by decide) ?_
  refine z_copyI (pc := 144) hx hb hml hown hts w3_83 hK hT 14 15 rfl rfl 0 0 41 rfl rfl rfl (Nat.le_of_ble_eq_true rfl) (Nat.le_of_ble_eq_true rfl) (Nat.le_of_ble_eq_true rfl) (Nat.le_of_ble_eq_true rfl) (kc 0) (fun t h => z_cpyA t h) hl.1 (Nat.le_of_ble_eq_true rfl) dX3_copyFrom_144 [(h0, .inr (3, [.int 1, .int 0, .int 0, .int 0, .ref h2, .ref h4, .ref h6, .ref h8, .ref h10, .ref h12, .ref h14, .ref h16, .ref h18, .ref h20])), (h1, .inr (3, [.int 1, .int 0, .int 0, .int 0, .ref h3, .ref h5, .ref h7, .ref h9, .ref h11, .ref h13, .ref h15, .ref h17, .ref h19, .ref h21])), (h2, .inl (cy 0, 40, .inl (kc (-1)))), (h3, .inl (cy 0, 40, .inl (kc (-1)))), (h4, .inl (cy 0, 120, .inl (kc 0))), (h5, .inl (cy 0, 120, .inl (kc 0))), (h6, .inl (cy 0, 120, .inl (kc 0))), (h7, .inl (cy 0, 120, .inl (kc 0))), (h8, .inl (cy 0, 120, .inl (kc 0))), (h9, .inl (cy 0, 120, .inl (kc 0))), (h10, .inl (cy 0, 120, .inl (kc 0))), (h11, .inl (cy 0, 120, .inl (kc 0))), (h12, .inl (cy 0, 120, .inl (kc 0))), (h13, .inl (cy 0, 120, .inl (kc 0))), (h14, .inl (cy 0, 41, .inl (kc 0))), (h15, .inl (cy 0, 41, .inl (kc 0))), (h16, .inl (cy 0, 120, .inl (kc 0))), (h17, .inl (cy 0, 120, .inl (kc 0))), (h18, .inl (cy 0, 41, .inl (kc 0))), (h19, .inl (cy 0, 41, .inl (kc 0))), (h20, .inl (cy 0, 120, .inl (kc 0))), (h21, .inl (cy 0, 120, .inl (kc 0)))] rfl (fun H locs hT => ?_)
  refine lv_aload_n (pc := 147) hx hb dX3_copyFrom_147 rfl (lv_at hl 1 rfl) ?_
  refine z_get (pc := 148) hx hb hts hown hK hT 0 3 11 rfl rfl (by decide) rfl w1_121 rfl dX3_copyFrom_148 ?_
  refine lv_iconst (pc := 151) (v := 0) hx hb dX3_copyFrom_151 (by decide) ?_
  refine lv_aload_n (pc := 152) hx hb dX3_copyFrom_152 rfl (lv_at hl 0 rfl) ?_
  refine z_get (pc := 153) hx hb hts hown hK hT 1 3 11 rfl rfl (by decide) rfl w1_121 rfl dX3_copyFrom_153 ?_
  refine lv_iconst (pc := 156) (v := 0) hx hb dX3_copyFrom_156 (by decide) ?_
  refine lv_aload_n (pc := 157) hx hb dX3_copyFrom_157 rfl (lv_at hl 0 rfl) ?_
  refine z_get (pc := 158) hx hb hts hown hK hT 1 3 2 rfl rfl (by decide) rfl w1_64 rfl dX3_copyFrom_158 ?_
  refine z_copyI (pc := 161) hx hb hml hown hts w3_83 hK hT 16 17 rfl rfl 0 0 0 rfl rfl rfl (Nat.le_of_ble_eq_true rfl) (Nat.le_of_ble_eq_true rfl) (Nat.le_of_ble_eq_true rfl) (Nat.le_of_ble_eq_true rfl) (kc 0) (fun t _ => z_cpy0 t) hl.1 (Nat.le_of_ble_eq_true rfl) dX3_copyFrom_161 [(h0, .inr (3, [.int 1, .int 0, .int 0, .int 0, .ref h2, .ref h4, .ref h6, .ref h8, .ref h10, .ref h12, .ref h14, .ref h16, .ref h18, .ref h20])), (h1, .inr (3, [.int 1, .int 0, .int 0, .int 0, .ref h3, .ref h5, .ref h7, .ref h9, .ref h11, .ref h13, .ref h15, .ref h17, .ref h19, .ref h21])), (h2, .inl (cy 0, 40, .inl (kc (-1)))), (h3, .inl (cy 0, 40, .inl (kc (-1)))), (h4, .inl (cy 0, 120, .inl (kc 0))), (h5, .inl (cy 0, 120, .inl (kc 0))), (h6, .inl (cy 0, 120, .inl (kc 0))), (h7, .inl (cy 0, 120, .inl (kc 0))), (h8, .inl (cy 0, 120, .inl (kc 0))), (h9, .inl (cy 0, 120, .inl (kc 0))), (h10, .inl (cy 0, 120, .inl (kc 0))), (h11, .inl (cy 0, 120, .inl (kc 0))), (h12, .inl (cy 0, 120, .inl (kc 0))), (h13, .inl (cy 0, 120, .inl (kc 0))), (h14, .inl (cy 0, 41, .inl (kc 0))), (h15, .inl (cy 0, 41, .inl (kc 0))), (h16, .inl (cy 0, 120, .inl (kc 0))), (h17, .inl (cy 0, 120, .inl (kc 0))), (h18, .inl (cy 0, 41, .inl (kc 0))), (h19, .inl (cy 0, 41, .inl (kc 0))), (h20, .inl (cy 0, 120, .inl (kc 0))), (h21, .inl (cy 0, 120, .inl (kc 0)))] rfl (fun H locs hT => ?_)
  refine lv_aload_n (pc := 164) hx hb dX3_copyFrom_164 rfl (lv_at hl 1 rfl) ?_
  refine z_get (pc := 165) hx hb hts hown hK hT 0 3 12 rfl rfl (by decide) rfl w1_127 rfl dX3_copyFrom_165 ?_
  refine lv_iconst (pc := 168) (v := 0) hx hb dX3_copyFrom_168 (by decide) ?_
  refine lv_aload_n (pc := 169) hx hb dX3_copyFrom_169 rfl (lv_at hl 0 rfl) ?_
  refine z_get (pc := 170) hx hb hts hown hK hT 1 3 12 rfl rfl (by decide) rfl w1_127 rfl dX3_copyFrom_170 ?_
  refine lv_iconst (pc := 173) (v := 0) hx hb dX3_copyFrom_173 (by decide) ?_
  refine lv_bipush (pc := 174) (v := 41) hx hb dX3_copyFrom_174 (by decide) ?_
  refine z_copyI (pc := 176) hx hb hml hown hts w3_83 hK hT 18 19 rfl rfl 0 0 41 rfl rfl rfl (Nat.le_of_ble_eq_true rfl) (Nat.le_of_ble_eq_true rfl) (Nat.le_of_ble_eq_true rfl) (Nat.le_of_ble_eq_true rfl) (kc 0) (fun t h => z_cpyA t h) hl.1 (Nat.le_of_ble_eq_true rfl) dX3_copyFrom_176 [(h0, .inr (3, [.int 1, .int 0, .int 0, .int 0, .ref h2, .ref h4, .ref h6, .ref h8, .ref h10, .ref h12, .ref h14, .ref h16, .ref h18, .ref h20])), (h1, .inr (3, [.int 1, .int 0, .int 0, .int 0, .ref h3, .ref h5, .ref h7, .ref h9, .ref h11, .ref h13, .ref h15, .ref h17, .ref h19, .ref h21])), (h2, .inl (cy 0, 40, .inl (kc (-1)))), (h3, .inl (cy 0, 40, .inl (kc (-1)))), (h4, .inl (cy 0, 120, .inl (kc 0))), (h5, .inl (cy 0, 120, .inl (kc 0))), (h6, .inl (cy 0, 120, .inl (kc 0))), (h7, .inl (cy 0, 120, .inl (kc 0))), (h8, .inl (cy 0, 120, .inl (kc 0))), (h9, .inl (cy 0, 120, .inl (kc 0))), (h10, .inl (cy 0, 120, .inl (kc 0))), (h11, .inl (cy 0, 120, .inl (kc 0))), (h12, .inl (cy 0, 120, .inl (kc 0))), (h13, .inl (cy 0, 120, .inl (kc 0))), (h14, .inl (cy 0, 41, .inl (kc 0))), (h15, .inl (cy 0, 41, .inl (kc 0))), (h16, .inl (cy 0, 120, .inl (kc 0))), (h17, .inl (cy 0, 120, .inl (kc 0))), (h18, .inl (cy 0, 41, .inl (kc 0))), (h19, .inl (cy 0, 41, .inl (kc 0))), (h20, .inl (cy 0, 120, .inl (kc 0))), (h21, .inl (cy 0, 120, .inl (kc 0)))] rfl (fun H locs hT => ?_)
  refine lv_aload_n (pc := 179) hx hb dX3_copyFrom_179 rfl (lv_at hl 1 rfl) ?_
  refine z_get (pc := 180) hx hb hts hown hK hT 0 3 13 rfl rfl (by decide) rfl w1_129 rfl dX3_copyFrom_180 ?_
  refine lv_iconst (pc := 183) (v := 0) hx hb dX3_copyFrom_183 (by decide) ?_
  refine lv_aload_n (pc := 184) hx hb dX3_copyFrom_184 rfl (lv_at hl 0 rfl) ?_
  refine z_get (pc := 185) hx hb hts hown hK hT 1 3 13 rfl rfl (by decide) rfl w1_129 rfl dX3_copyFrom_185 ?_
  refine lv_iconst (pc := 188) (v := 0) hx hb dX3_copyFrom_188 (by decide) ?_
  refine lv_aload_n (pc := 189) hx hb dX3_copyFrom_189 rfl (lv_at hl 0 rfl) ?_
  refine z_get (pc := 190) hx hb hts hown hK hT 1 3 2 rfl rfl (by decide) rfl w1_64 rfl dX3_copyFrom_190 ?_
  refine z_copyI (pc := 193) hx hb hml hown hts w3_83 hK hT 20 21 rfl rfl 0 0 0 rfl rfl rfl (Nat.le_of_ble_eq_true rfl) (Nat.le_of_ble_eq_true rfl) (Nat.le_of_ble_eq_true rfl) (Nat.le_of_ble_eq_true rfl) (kc 0) (fun t _ => z_cpy0 t) hl.1 (Nat.le_of_ble_eq_true rfl) dX3_copyFrom_193 [(h0, .inr (3, [.int 1, .int 0, .int 0, .int 0, .ref h2, .ref h4, .ref h6, .ref h8, .ref h10, .ref h12, .ref h14, .ref h16, .ref h18, .ref h20])), (h1, .inr (3, [.int 1, .int 0, .int 0, .int 0, .ref h3, .ref h5, .ref h7, .ref h9, .ref h11, .ref h13, .ref h15, .ref h17, .ref h19, .ref h21])), (h2, .inl (cy 0, 40, .inl (kc (-1)))), (h3, .inl (cy 0, 40, .inl (kc (-1)))), (h4, .inl (cy 0, 120, .inl (kc 0))), (h5, .inl (cy 0, 120, .inl (kc 0))), (h6, .inl (cy 0, 120, .inl (kc 0))), (h7, .inl (cy 0, 120, .inl (kc 0))), (h8, .inl (cy 0, 120, .inl (kc 0))), (h9, .inl (cy 0, 120, .inl (kc 0))), (h10, .inl (cy 0, 120, .inl (kc 0))), (h11, .inl (cy 0, 120, .inl (kc 0))), (h12, .inl (cy 0, 120, .inl (kc 0))), (h13, .inl (cy 0, 120, .inl (kc 0))), (h14, .inl (cy 0, 41, .inl (kc 0))), (h15, .inl (cy 0, 41, .inl (kc 0))), (h16, .inl (cy 0, 120, .inl (kc 0))), (h17, .inl (cy 0, 120, .inl (kc 0))), (h18, .inl (cy 0, 41, .inl (kc 0))), (h19, .inl (cy 0, 41, .inl (kc 0))), (h20, .inl (cy 0, 120, .inl (kc 0))), (h21, .inl (cy 0, 120, .inl (kc 0)))] rfl (fun H locs hT => ?_)
  exact z_vret (pc := 196) hx hb hr hlk hT (fun _ _ => 0) [0, 1, 2, 3, 4, 5, 6, 7, 8, 9, 10, 11, 12, 13, 14, 15, 16, 17, 18, 19, 20, 21] rfl rfl (Nat.le_of_ble_eq_true rfl) (Nat.le_of_ble_eq_true rfl) dX3_copyFrom_196
set_option maxHeartbeats 4000000 in
set_option maxRecDepth 100000 in
theorem k10_X3_isBuiltAs (l : Launch) (G : va_G) (cy : Nat → ClassId) (h0 h1 h2 h3 h4 h5 h6 h7 h8 h9 h10 h11 h12 h13 h14 h15 h16 h17 h18 h19 h20 h21 : Nat) : zI l G cy yX3_isBuiltAs cX3_isBuiltAs 3 (some .boolean) 0 0 0 [.ref h0, .ref h1] [(h0, .inr (3, [.int 1, .int 0, .int 0, .int 0, .ref h2, .ref h4, .ref h5, .ref h6, .ref h7, .ref h8, .ref h9, .ref h10, .ref h11, .ref h12])), (h1, .inr (3, [.int 1, .int 0, .int 0, .int 0, .ref h3, .ref h13, .ref h14, .ref h15, .ref h16, .ref h17, .ref h18, .ref h19, .ref h20, .ref h21])), (h2, .inl (cy 0, 40, .inl (kc (-1)))), (h3, .inl (cy 0, 40, .inl (kc (-1))))] 1 (fun _ => [(h0, .inr (3, [.int 1, .int 0, .int 0, .int 0, .ref h2, .ref h4, .ref h5, .ref h6, .ref h7, .ref h8, .ref h9, .ref h10, .ref h11, .ref h12])), (h1, .inr (3, [.int 1, .int 0, .int 0, .int 0, .ref h3, .ref h13, .ref h14, .ref h15, .ref h16, .ref h17, .ref h18, .ref h19, .ref h20, .ref h21])), (h2, .inl (cy 0, 40, .inl (kc (-1)))), (h3, .inl (cy 0, 40, .inl (kc (-1))))]) := by
  refine zM.of (by decide) (Nat.le_of_ble_eq_true rfl) ?_
  intro p e s m args below meth c ls A hx hb hml hown hts hlk hr hin hl hK hA hT
  have hown : s.vm.findClass "CostBench$Machine" = some m.cls := hown
  have hl : lv_has ls 3 [(0, .ref h0), (1, .ref h1)] := hl
  refine lv_aload_n (pc := 0) hx hb dX3_isBuiltAs_0 rfl (lv_at hl 0 rfl) ?_
  refine z_get (pc := 1) hx hb hts hown hK hT 0 3 1 rfl rfl (by decide) rfl w1_58 rfl dX3_isBuiltAs_1 ?_
  refine lv_aload_n (pc := 4) hx hb dX3_isBuiltAs_4 rfl (lv_at hl 1 rfl) ?_
  refine z_get (pc := 5) hx hb hts hown hK hT 1 3 1 rfl rfl (by decide) rfl w1_58 rfl dX3_isBuiltAs_5 ?_
  refine zb_icmp_ne_f (pc := 8) (tgt := 33) hx hb dX3_isBuiltAs_8 (by decide) (by decide) ?_
  refine lv_aload_n (pc := 11) hx hb dX3_isBuiltAs_11 rfl (lv_at hl 0 rfl) ?_
  refine z_get (pc := 12) hx hb hts hown hK hT 0 3 0 rfl rfl (by decide) rfl w1_50 rfl dX3_isBuiltAs_12 ?_
  refine lv_aload_n (pc := 15) hx hb dX3_isBuiltAs_15 rfl (lv_at hl 1 rfl) ?_
  refine z_get (pc := 16) hx hb hts hown hK hT 1 3 0 rfl rfl (by decide) rfl w1_50 rfl dX3_isBuiltAs_16 ?_
  refine zb_icmp_ne_f (pc := 19) (tgt := 33) hx hb dX3_isBuiltAs_19 (by decide) (by decide) ?_
  refine lv_aload_n (pc := 22) hx hb dX3_isBuiltAs_22 rfl (lv_at hl 0 rfl) ?_
  refine z_get (pc := 23) hx hb hts hown hK hT 0 3 2 rfl rfl (by decide) rfl w1_64 rfl dX3_isBuiltAs_23 ?_
  refine lv_aload_n (pc := 26) hx hb dX3_isBuiltAs_26 rfl (lv_at hl 1 rfl) ?_
  refine z_get (pc := 27) hx hb hts hown hK hT 1 3 2 rfl rfl (by decide) rfl w1_64 rfl dX3_isBuiltAs_27 ?_
  refine zb_icmp_eq_t (pc := 30) (tgt := 35) hx hb dX3_isBuiltAs_30 (by decide) (by decide) ?_
  refine lv_iconst (pc := 35) (v := 0) hx hb dX3_isBuiltAs_35 (by decide) ?_
  refine lv_istore_n (pc := 36) (lv' := [(2, .int 0), (0, .ref h0), (1, .ref h1)]) hx hb dX3_isBuiltAs_36 rfl hl (by decide) rfl (fun ls hl => ?_)
  refine lv_iload_n (pc := 37) hx hb dX3_isBuiltAs_37 rfl (lv_at hl 0 rfl) ?_
  refine lv_aload_n (pc := 38) hx hb dX3_isBuiltAs_38 rfl (lv_at hl 1 rfl) ?_
  refine z_get (pc := 39) hx hb hts hown hK hT 0 3 0 rfl rfl (by decide) rfl w1_50 rfl dX3_isBuiltAs_39 ?_
  refine zb_icmp_ge_f (pc := 42) (tgt := 68) hx hb dX3_isBuiltAs_42 (by decide) (by decide) ?_
  refine lv_aload_n (pc := 45) hx hb dX3_isBuiltAs_45 rfl (lv_at hl 1 rfl) ?_
  refine z_get (pc := 46) hx hb hts hown hK hT 0 3 4 rfl rfl (by decide) rfl w1_74 rfl dX3_isBuiltAs_46 ?_
  refine lv_iload_n (pc := 49) hx hb dX3_isBuiltAs_49 rfl (lv_at hl 0 rfl) ?_
  refine z_iald (pc := 50) (v := (-1)) hx hb hK hT 2 0 rfl rfl (by decide) (by decide) rfl dX3_isBuiltAs_50 ?_
  refine lv_aload_n (pc := 51) hx hb dX3_isBuiltAs_51 rfl (lv_at hl 2 rfl) ?_
  refine z_get (pc := 52) hx hb hts hown hK hT 1 3 4 rfl rfl (by decide) rfl w1_74 rfl dX3_isBuiltAs_52 ?_
  refine lv_iload_n (pc := 55) hx hb dX3_isBuiltAs_55 rfl (lv_at hl 0 rfl) ?_
  refine z_iald (pc := 56) (v := (-1)) hx hb hK hT 3 0 rfl rfl (by decide) (by decide) rfl dX3_isBuiltAs_56 ?_
  refine zb_icmp_eq_t (pc := 57) (tgt := 62) hx hb dX3_isBuiltAs_57 (by decide) (by decide) ?_
  refine lv_iinc (pc := 62) (v := 1) (lv' := [(2, .int 1), (0, .ref h0), (1, .ref h1)]) hx hb dX3_isBuiltAs_62 hl (k := 0) rfl (by decide) (by decide) rfl (fun ls hl => ?_)
  refine lv_goto (pc := 65) (tgt := 37) hx hb dX3_isBuiltAs_65 (by decide) ?_
  refine lv_iload_n (pc := 37) hx hb dX3_isBuiltAs_37 rfl (lv_at hl 0 rfl) ?_
  refine lv_aload_n (pc := 38) hx hb dX3_isBuiltAs_38 rfl (lv_at hl 1 rfl) ?_
  refine z_get (pc := 39) hx hb hts hown hK hT 0 3 0 rfl rfl (by decide) rfl w1_50 rfl dX3_isBuiltAs_39 ?_
  refine zb_icmp_ge_t (pc := 42) (tgt := 68) hx hb dX3_isBuiltAs_42 (by decide) (by decide) ?_
  refine lv_iconst (pc := 68) (v := 0) hx hb dX3_isBuiltAs_68 (by decide) ?_
  refine lv_istore_n (pc := 69) (lv' := [(2, .int 0), (0, .ref h0), (1, .ref h1)]) hx hb dX3_isBuiltAs_69 rfl hl (by decide) rfl (fun ls hl => ?_)
  refine lv_iload_n (pc := 70) hx hb dX3_isBuiltAs_70 rfl (lv_at hl 0 rfl) ?_
  refine lv_aload_n (pc := 71) hx hb dX3_isBuiltAs_71 rfl (lv_at hl 1 rfl) ?_
  refine z_get (pc := 72) hx hb hts hown hK hT 0 3 2 rfl rfl (by decide) rfl w1_64 rfl dX3_isBuiltAs_72 ?_
  refine zb_icmp_ge_t (pc := 75) (tgt := 161) hx hb dX3_isBuiltAs_75 (by decide) (by decide) ?_
  refine lv_iconst (pc := 161) (v := 1) hx hb dX3_isBuiltAs_161 (by decide) ?_
  exact z_zret (pc := 162) hx hb hr hlk hT (fun _ _ => 0) [0, 1, 2, 3] rfl rfl rfl rfl (Nat.le_of_ble_eq_true rfl) (Nat.le_of_ble_eq_true rfl) dX3_isBuiltAs_162
set_option maxHeartbeats 4000000 in
set_option maxRecDepth 100000 in
theorem k11_X3_isBuiltAs (l : Launch) (G : va_G) (cy : Nat → ClassId) (h0 h1 h2 h3 h4 h5 h6 h7 h8 h9 h10 : Nat) : zI l G cy yX3_isBuiltAs cX3_isBuiltAs 3 (some .boolean) 0 0 0 [.ref h0, .ref h0] [(h0, .inr (3, [.int 1, .int 0, .int 0, .int 0, .ref h1, .ref h2, .ref h3, .ref h4, .ref h5, .ref h6, .ref h7, .ref h8, .ref h9, .ref h10])), (h1, .inl (cy 0, 40, .inl (kc (-1))))] 1 (fun _ => [(h0, .inr (3, [.int 1, .int 0, .int 0, .int 0, .ref h1, .ref h2, .ref h3, .ref h4, .ref h5, .ref h6, .ref h7, .ref h8, .ref h9, .ref h10])), (h1, .inl (cy 0, 40, .inl (kc (-1))))]) := by
  refine zM.of (by decide) (Nat.le_of_ble_eq_true rfl) ?_
  intro p e s m args below meth c ls A hx hb hml hown hts hlk hr hin hl hK hA hT
  have hown : s.vm.findClass "CostBench$Machine" = some m.cls := hown
  have hl : lv_has ls 3 [(0, .ref h0), (1, .ref h0)] := hl
  refine lv_aload_n (pc := 0) hx hb dX3_isBuiltAs_0 rfl (lv_at hl 0 rfl) ?_
  refine z_get (pc := 1) hx hb hts hown hK hT 0 3 1 rfl rfl (by decide) rfl w1_58 rfl dX3_isBuiltAs_1 ?_
  refine lv_aload_n (pc := 4) hx hb dX3_isBuiltAs_4 rfl (lv_at hl 1 rfl) ?_
  refine z_get (pc := 5) hx hb hts hown hK hT 0 3 1 rfl rfl (by decide) rfl w1_58 rfl dX3_isBuiltAs_5 ?_
  refine zb_icmp_ne_f (pc := 8) (tgt := 33) hx hb dX3_isBuiltAs_8 (by decide) (by decide) ?_
  refine lv_aload_n (pc := 11) hx hb dX3_isBuiltAs_11 rfl (lv_at hl 0 rfl) ?_
  refine z_get (pc := 12) hx hb hts hown hK hT 0 3 0 rfl rfl (by decide) rfl w1_50 rfl dX3_isBuiltAs_12 ?_
  refine lv_aload_n (pc := 15) hx hb dX3_isBuiltAs_15 rfl (lv_at hl 1 rfl) ?_
  refine z_get (pc := 16) hx hb hts hown hK hT 0 3 0 rfl rfl (by decide) rfl w1_50 rfl dX3_isBuiltAs_16 ?_
  refine zb_icmp_ne_f (pc := 19) (tgt := 33) hx hb dX3_isBuiltAs_19 (by decide) (by decide) ?_
  refine lv_aload_n (pc := 22) hx hb dX3_isBuiltAs_22 rfl (lv_at hl 0 rfl) ?_
  refine z_get (pc := 23) hx hb hts hown hK hT 0 3 2 rfl rfl (by decide) rfl w1_64 rfl dX3_isBuiltAs_23 ?_
  refine lv_aload_n (pc := 26) hx hb dX3_isBuiltAs_26 rfl (lv_at hl 1 rfl) ?_
  refine z_get (pc := 27) hx hb hts hown hK hT 0 3 2 rfl rfl (by decide) rfl w1_64 rfl dX3_isBuiltAs_27 ?_
  refine zb_icmp_eq_t (pc := 30) (tgt := 35) hx hb dX3_isBuiltAs_30 (by decide) (by decide) ?_
  refine lv_iconst (pc := 35) (v := 0) hx hb dX3_isBuiltAs_35 (by decide) ?_
  refine lv_istore_n (pc := 36) (lv' := [(2, .int 0), (0, .ref h0), (1, .ref h0)]) hx hb dX3_isBuiltAs_36 rfl hl (by decide) rfl (fun ls hl => ?_)
  refine lv_iload_n (pc := 37) hx hb dX3_isBuiltAs_37 rfl (lv_at hl 0 rfl) ?_
  refine lv_aload_n (pc := 38) hx hb dX3_isBuiltAs_38 rfl (lv_at hl 1 rfl) ?_
  refine z_get (pc := 39) hx hb hts hown hK hT 0 3 0 rfl rfl (by decide) rfl w1_50 rfl dX3_isBuiltAs_39 ?_
  refine zb_icmp_ge_f (pc := 42) (tgt := 68) hx hb dX3_isBuiltAs_42 (by decide) (by decide) ?_
  refine lv_aload_n (pc := 45) hx hb dX3_isBuiltAs_45 rfl (lv_at hl 1 rfl) ?_
  refine z_get (pc := 46) hx hb hts hown hK hT 0 3 4 rfl rfl (by decide) rfl w1_74 rfl dX3_isBuiltAs_46 ?_
  refine lv_iload_n (pc := 49) hx hb dX3_isBuiltAs_49 rfl (lv_at hl 0 rfl) ?_
  refine z_iald (pc := 50) (v := (-1)) hx hb hK hT 1 0 rfl rfl (by decide) (by decide) rfl dX3_isBuiltAs_50 ?_
  refine lv_aload_n (pc := 51) hx hb dX3_isBuiltAs_51 rfl (lv_at hl 2 rfl) ?_
  refine z_get (pc := 52) hx hb hts hown hK hT 0 3 4 rfl rfl (by decide) rfl w1_74 rfl dX3_isBuiltAs_52 ?_
  refine lv_iload_n (pc := 55) hx hb dX3_isBuiltAs_55 rfl (lv_at hl 0 rfl) ?_
  refine z_iald (pc := 56) (v := (-1)) hx hb hK hT 1 0 rfl rfl (by decide) (by decide) rfl dX3_isBuiltAs_56 ?_
  refine zb_icmp_eq_t (pc := 57) (tgt := 62) hx hb dX3_isBuiltAs_57 (by decide) (by decide) ?_
  refine lv_iinc (pc := 62) (v := 1) (lv' := [(2, .int 1), (0, .ref h0), (1, .ref h0)]) hx hb dX3_isBuiltAs_62 hl (k := 0) rfl (by decide) (by decide) rfl (fun ls hl => ?_)
  refine lv_goto (pc := 65) (tgt := 37) hx hb dX3_isBuiltAs_65 (by decide) ?_
  refine lv_iload_n (pc := 37) hx hb dX3_isBuiltAs_37 rfl (lv_at hl 0 rfl) ?_
  refine lv_aload_n (pc := 38) hx hb dX3_isBuiltAs_38 rfl (lv_at hl 1 rfl) ?_
  refine z_get (pc := 39) hx hb hts hown hK hT 0 3 0 rfl rfl (by decide) rfl w1_50 rfl dX3_isBuiltAs_39 ?_
  refine zb_icmp_ge_t (pc := 42) (tgt := 68) hx hb dX3_isBuiltAs_42 (by decide) (by decide) ?_
  refine lv_iconst (pc := 68) (v := 0) hx hb dX3_isBuiltAs_68 (by decide) ?_
  refine lv_istore_n (pc := 69) (lv' := [(2, .int 0), (0, .ref h0), (1, .ref h0)]) hx hb dX3_isBuiltAs_69 rfl hl (by decide) rfl (fun ls hl => ?_)
  refine lv_iload_n (pc := 70) hx hb dX3_isBuiltAs_70 rfl (lv_at hl 0 rfl) ?_
  refine lv_aload_n (pc := 71) hx hb dX3_isBuiltAs_71 rfl (lv_at hl 1 rfl) ?_
  refine z_get (pc := 72) hx hb hts hown hK hT 0 3 2 rfl rfl (by decide) rfl w1_64 rfl dX3_isBuiltAs_72 ?_
  refine zb_icmp_ge_t (pc := 75) (tgt := 161) hx hb dX3_isBuiltAs_75 (by decide) (by decide) ?_
  refine lv_iconst (pc := 161) (v := 1) hx hb dX3_isBuiltAs_161 (by decide) ?_
  exact z_zret (pc := 162) hx hb hr hlk hT (fun _ _ => 0) [0, 1] rfl rfl rfl rfl (Nat.le_of_ble_eq_true rfl) (Nat.le_of_ble_eq_true rfl) dX3_isBuiltAs_162
set_option maxHeartbeats 4000000 in
set_option maxRecDepth 100000 in
theorem k12_X12_begins (l : Launch) (G : va_G) (cy : Nat → ClassId) (h0 : Nat) : zV l G cy yX12_begins cX12_begins 3 none 0 0 0 [.ref h0, .int 1] [(h0, .inl (cy 0, 643, .inl (kc 0)))] (fun _ => [(h0, .inl (cy 0, 643, .inl (zfil (upd (kc 0) 0 1) 3 43 (-1))))]) := by
  refine zM.of (by decide) (Nat.le_of_ble_eq_true rfl) ?_
  intro p e s m args below meth c ls A hx hb hml hown hts hlk hr hin hl hK hA hT
  have hown : s.vm.findClass "CostBenchModel" = some m.cls := hown
  have hl : lv_has ls 3 [(0, .ref h0), (1, .int 1)] := hl
  refine lv_iconst (pc := 0) (v := 0) hx hb dX12_begins_0 (by decide) ?_
  refine lv_istore_n (pc := 1) (lv' := [(2, .int 0), (0, .ref h0), (1, .int 1)]) hx hb dX12_begins_1 rfl hl (by decide) rfl (fun ls hl => ?_)
  refine z_loop (pc := 2) (fun i1 H locs ls => zT G A s.heap H locs [(h0, .inl (cy 0, 643, .inl (kc 0)))] ∧ lv_has ls 3 [(2, .int (nI i1)), (0, .ref h0), (1, .int 1)]) 0 643 (fun i1 H locs ls hloi1 hhii1 hq ih => ?_) (fun H locs ls hq => ?_) (Nat.le_of_ble_eq_true rfl) ⟨hT, hl⟩
  · obtain ⟨hT, hl⟩ := hq
    refine lv_iload_n (pc := 2) hx hb dX12_begins_2 rfl (lv_at hl 0 rfl) ?_
    refine lv_sipush (pc := 3) (v := 643) hx hb dX12_begins_3 (by decide) ?_
    refine zb_icmp_ge_f (pc := 6) (tgt := 19) hx hb dX12_begins_6 (by decide) (nI_ge (b := 643) (by omega) (by decide)) ?_
    refine lv_aload_n (pc := 9) hx hb dX12_begins_9 rfl (lv_at hl 1 rfl) ?_
    refine lv_iload_n (pc := 10) hx hb dX12_begins_10 rfl (lv_at hl 0 rfl) ?_
    refine lv_iconst (pc := 11) (v := 0) hx hb dX12_begins_11 (by decide) ?_
    refine z_iast (pc := 12) hx hb hK hT 0 i1 rfl rfl (by omega) (by decide) dX12_begins_12 (kc 0) (fun j _ => z_upds rfl j) [(h0, .inl (cy 0, 643, .inl (kc 0)))] rfl (fun H locs hT => ?_)
    refine lv_iinc (pc := 13) (v := (nI (i1 + 1))) (lv' := [(2, .int (nI (i1 + 1))), (0, .ref h0), (1, .int 1)]) hx hb dX12_begins_13 hl (k := 0) rfl (nI_add i1 1) (by decide) rfl (fun ls hl => ?_)
    refine lv_goto (pc := 16) (tgt := 2) hx hb dX12_begins_16 (by decide) ?_
    exact ih _ _ _ ⟨hT.sub [0] rfl rfl, lv_sub hl [0, 1, 2] rfl⟩
  · obtain ⟨hT, hl⟩ := hq
    have hl : lv_has ls 3 [(2, .int 643), (0, .ref h0), (1, .int 1)] := hl
    refine lv_iload_n (pc := 2) hx hb dX12_begins_2 rfl (lv_at hl 0 rfl) ?_
    refine lv_sipush (pc := 3) (v := 643) hx hb dX12_begins_3 (by decide) ?_
    refine zb_icmp_ge_t (pc := 6) (tgt := 19) hx hb dX12_begins_6 (by decide) (by decide) ?_
    refine lv_aload_n (pc := 19) hx hb dX12_begins_19 rfl (lv_at hl 1 rfl) ?_
    refine lv_iconst (pc := 20) (v := 0) hx hb dX12_begins_20 (by decide) ?_
    refine lv_iload_n (pc := 21) hx hb dX12_begins_21 rfl (lv_at hl 2 rfl) ?_
    refine z_iast (pc := 22) hx hb hK hT 0 0 rfl rfl (by decide) (by decide) dX12_begins_22 (upd (kc 0) 0 1) (fun _ _ => rfl) [(h0, .inl (cy 0, 643, .inl (upd (kc 0) 0 1)))] rfl (fun H locs hT => ?_)
    refine lv_iconst (pc := 23) (v := 0) hx hb dX12_begins_23 (by decide) ?_
    refine lv_istore_n (pc := 24) (lv' := [(2, .int 0), (0, .ref h0), (1, .int 1)]) hx hb dX12_begins_24 rfl hl (by decide) rfl (fun ls hl => ?_)
    have hT := hT.setI 0 rfl (zfil (upd (kc 0) 0 1) 3 (3 + 0) (-1)) (fun j _ => zfil0 j) [(h0, .inl (cy 0, 643, .inl (zfil (upd (kc 0) 0 1) 3 (3 + 0) (-1))))] rfl
    refine z_loop (pc := 25) (fun i2 H locs ls => zT G A s.heap H locs [(h0, .inl (cy 0, 643, .inl (zfil (upd (kc 0) 0 1) 3 (3 + i2) (-1))))] ∧ lv_has ls 3 [(2, .int (nI i2)), (0, .ref h0), (1, .int 1)]) 0 40 (fun i2 H locs ls hloi2 hhii2 hq ih => ?_) (fun H locs ls hq => ?_) (Nat.le_of_ble_eq_true rfl) ⟨hT, hl⟩
    · obtain ⟨hT, hl⟩ := hq
      refine lv_iload_n (pc := 25) hx hb dX12_begins_25 rfl (lv_at hl 0 rfl) ?_
      refine lv_bipush (pc := 26) (v := 40) hx hb dX12_begins_26 (by decide) ?_
      refine zb_icmp_ge_f (pc := 28) (tgt := 43) hx hb dX12_begins_28 (by decide) (nI_ge (b := 40) (by omega) (by decide)) ?_
      refine lv_aload_n (pc := 31) hx hb dX12_begins_31 rfl (lv_at hl 1 rfl) ?_
      refine lv_iconst (pc := 32) (v := 3) hx hb dX12_begins_32 (by decide) ?_
      refine lv_iload_n (pc := 33) hx hb dX12_begins_33 rfl (lv_at hl 0 rfl) ?_
      refine z_iadd (pc := 34) (v := nI (3 + i2)) hx hb dX12_begins_34 (nI_add 3 i2) ?_
      refine lv_iconst (pc := 35) (v := (-1)) hx hb dX12_begins_35 (by decide) ?_
      refine z_iast (pc := 36) hx hb hK hT 0 (3 + i2) rfl rfl (by omega) (by decide) dX12_begins_36 (zfil (upd (kc 0) 0 1) 3 (3 + (i2 + 1)) (-1)) (fun j _ => zfilS (by omega) j) [(h0, .inl (cy 0, 643, .inl (zfil (upd (kc 0) 0 1) 3 (3 + (i2 + 1)) (-1))))] rfl (fun H locs hT => ?_)
      refine lv_iinc (pc := 37) (v := (nI (i2 + 1))) (lv' := [(2, .int (nI (i2 + 1))), (0, .ref h0), (1, .int 1)]) hx hb dX12_begins_37 hl (k := 0) rfl (nI_add i2 1) (by decide) rfl (fun ls hl => ?_)
      refine lv_goto (pc := 40) (tgt := 25) hx hb dX12_begins_40 (by decide) ?_
      exact ih _ _ _ ⟨hT.sub [0] rfl rfl, lv_sub hl [0, 1, 2] rfl⟩
    · obtain ⟨hT, hl⟩ := hq
      have hl : lv_has ls 3 [(2, .int 40), (0, .ref h0), (1, .int 1)] := hl
      have hT : zT G A s.heap H locs [(h0, .inl (cy 0, 643, .inl (zfil (upd (kc 0) 0 1) 3 43 (-1))))] := hT
      refine lv_iload_n (pc := 25) hx hb dX12_begins_25 rfl (lv_at hl 0 rfl) ?_
      refine lv_bipush (pc := 26) (v := 40) hx hb dX12_begins_26 (by decide) ?_
      refine zb_icmp_ge_t (pc := 28) (tgt := 43) hx hb dX12_begins_28 (by decide) (by decide) ?_
      exact z_vret (pc := 43) hx hb hr hlk hT (fun _ _ => 0) [0] rfl rfl (Nat.le_of_ble_eq_true rfl) (Nat.le_of_ble_eq_true rfl) dX12_begins_43
set_option maxHeartbeats 4000000 in
set_option maxRecDepth 100000 in
theorem k13_X12_copies (l : Launch) (G : va_G) (cy : Nat → ClassId) (h0 h1 : Nat) : zV l G cy yX12_copies cX12_copies 3 none 0 0 0 [.ref h1, .ref h0] [(h0, .inl (cy 0, 643, .inl (kc 0))), (h1, .inl (cy 0, 643, .inl (kc 0)))] (fun _ => [(h0, .inl (cy 0, 643, .inl (kc 0))), (h1, .inl (cy 0, 643, .inl (kc 0)))]) := by
  refine zM.of (by decide) (Nat.le_of_ble_eq_true rfl) ?_
  intro p e s m args below meth c ls A hx hb hml hown hts hlk hr hin hl hK hA hT
  have hown : s.vm.findClass "CostBenchModel" = some m.cls := hown
  have hl : lv_has ls 3 [(0, .ref h1), (1, .ref h0)] := hl
  refine lv_iconst (pc := 0) (v := 0) hx hb dX12_copies_0 (by decide) ?_
  refine lv_istore_n (pc := 1) (lv' := [(2, .int 0), (0, .ref h1), (1, .ref h0)]) hx hb dX12_copies_1 rfl hl (by decide) rfl (fun ls hl => ?_)
  have hT := hT.setI 0 rfl (zcp (kc 0) (kc 0) 0) (fun j _ => zcp0 j) [(h0, .inl (cy 0, 643, .inl (zcp (kc 0) (kc 0) 0))), (h1, .inl (cy 0, 643, .inl (kc 0)))] rfl
  refine z_loop (pc := 2) (fun i1 H locs ls => zT G A s.heap H locs [(h0, .inl (cy 0, 643, .inl (zcp (kc 0) (kc 0) i1))), (h1, .inl (cy 0, 643, .inl (kc 0)))] ∧ lv_has ls 3 [(2, .int (nI i1)), (0, .ref h1), (1, .ref h0)]) 0 643 (fun i1 H locs ls hloi1 hhii1 hq ih => ?_) (fun H locs ls hq => ?_) (Nat.le_of_ble_eq_true rfl) ⟨hT, hl⟩
  · obtain ⟨hT, hl⟩ := hq
    refine lv_iload_n (pc := 2) hx hb dX12_copies_2 rfl (lv_at hl 0 rfl) ?_
    refine lv_sipush (pc := 3) (v := 643) hx hb dX12_copies_3 (by decide) ?_
    refine zb_icmp_ge_f (pc := 6) (tgt := 21) hx hb dX12_copies_6 (by decide) (nI_ge (b := 643) (by omega) (by decide)) ?_
    refine lv_aload_n (pc := 9) hx hb dX12_copies_9 rfl (lv_at hl 2 rfl) ?_
    refine lv_iload_n (pc := 10) hx hb dX12_copies_10 rfl (lv_at hl 0 rfl) ?_
    refine lv_aload_n (pc := 11) hx hb dX12_copies_11 rfl (lv_at hl 1 rfl) ?_
    refine lv_iload_n (pc := 12) hx hb dX12_copies_12 rfl (lv_at hl 0 rfl) ?_
    refine z_iald (pc := 13) (v := ((kc 0) i1)) hx hb hK hT 1 i1 rfl rfl (by omega) (by decide) rfl dX12_copies_13 ?_
    refine z_iast (pc := 14) hx hb hK hT 0 i1 rfl rfl (by omega) (by decide) dX12_copies_14 (zcp (kc 0) (kc 0) (i1 + 1)) (fun j _ => zcpS j) [(h0, .inl (cy 0, 643, .inl (zcp (kc 0) (kc 0) (i1 + 1)))), (h1, .inl (cy 0, 643, .inl (kc 0)))] rfl (fun H locs hT => ?_)
    refine lv_iinc (pc := 15) (v := (nI (i1 + 1))) (lv' := [(2, .int (nI (i1 + 1))), (0, .ref h1), (1, .ref h0)]) hx hb dX12_copies_15 hl (k := 0) rfl (nI_add i1 1) (by decide) rfl (fun ls hl => ?_)
    refine lv_goto (pc := 18) (tgt := 2) hx hb dX12_copies_18 (by decide) ?_
    exact ih _ _ _ ⟨hT.sub [0, 1] rfl rfl, lv_sub hl [0, 1, 2] rfl⟩
  · obtain ⟨hT, hl⟩ := hq
    have hl : lv_has ls 3 [(2, .int 643), (0, .ref h1), (1, .ref h0)] := hl
    have hT := hT.setI 0 rfl (kc 0) (fun j h => zcpA j h) [(h0, .inl (cy 0, 643, .inl (kc 0))), (h1, .inl (cy 0, 643, .inl (kc 0)))] rfl
    refine lv_iload_n (pc := 2) hx hb dX12_copies_2 rfl (lv_at hl 0 rfl) ?_
    refine lv_sipush (pc := 3) (v := 643) hx hb dX12_copies_3 (by decide) ?_
    refine zb_icmp_ge_t (pc := 6) (tgt := 21) hx hb dX12_copies_6 (by decide) (by decide) ?_
    exact z_vret (pc := 21) hx hb hr hlk hT (fun _ _ => 0) [0, 1] rfl rfl (Nat.le_of_ble_eq_true rfl) (Nat.le_of_ble_eq_true rfl) dX12_copies_21
set_option maxHeartbeats 4000000 in
set_option maxRecDepth 100000 in
theorem k14_X3_init (l : Launch) (G : va_G) (cy : Nat → ClassId) (h0 : Nat) : zV l G cy yX3_init cX3_init 1 none 1 10 962 [.ref h0] [(h0, .inr (3, [.int 0, .int 0, .int 0, .int 0, .null, .null, .null, .null, .null, .null, .null, .null, .null, .null]))] (fun qs => [(h0, .inr (3, [.int 1, .int 0, .int 0, .int 0, .ref (qs 0 0), .ref (qs 0 1), .ref (qs 0 2), .ref (qs 0 3), .ref (qs 0 4), .ref (qs 0 5), .ref (qs 0 6), .ref (qs 0 7), .ref (qs 0 8), .ref (qs 0 9)])), ((qs 0 0), .inl (cy 0, 40, .inl (kc (-1)))), ((qs 0 1), .inl (cy 0, 120, .inl (kc 0))), ((qs 0 2), .inl (cy 0, 120, .inl (kc 0))), ((qs 0 3), .inl (cy 0, 120, .inl (kc 0))), ((qs 0 4), .inl (cy 0, 120, .inl (kc 0))), ((qs 0 5), .inl (cy 0, 120, .inl (kc 0))), ((qs 0 6), .inl (cy 0, 41, .inl (kc 0))), ((qs 0 7), .inl (cy 0, 120, .inl (kc 0))), ((qs 0 8), .inl (cy 0, 41, .inl (kc 0))), ((qs 0 9), .inl (cy 0, 120, .inl (kc 0)))]) := by
  refine zM.of (by decide) (Nat.le_of_ble_eq_true rfl) ?_
  intro p e s m args below meth c ls A hx hb hml hown hts hlk hr hin hl hK hA hT
  have hown : s.vm.findClass "CostBench$Machine" = some m.cls := hown
  have hl : lv_has ls 1 [(0, .ref h0)] := hl
  refine lv_aload_n (pc := 0) hx hb dX3_init_0 rfl (lv_at hl 0 rfl) ?_
  refine z_objInit (pc := 1) hx hb hml hown hts w1_46 w1_38 w1_39 hl.1 (Nat.le_of_ble_eq_true rfl) dX3_init_1 ?_
  refine lv_aload_n (pc := 4) hx hb dX3_init_4 rfl (lv_at hl 0 rfl) ?_
  refine lv_iconst (pc := 5) (v := 1) hx hb dX3_init_5 (by decide) ?_
  refine z_put (pc := 6) (ty := .int) hx hb hts hown hK hT 0 3 0 (by decide +kernel) rfl rfl rfl rfl (by decide) rfl w1_50 (Nat.le_of_ble_eq_true rfl) dX3_init_6 [(h0, .inr (3, [.int 1, .int 0, .int 0, .int 0, .null, .null, .null, .null, .null, .null, .null, .null, .null, .null]))] rfl (fun H locs hT => ?_)
  refine lv_aload_n (pc := 9) hx hb dX3_init_9 rfl (lv_at hl 0 rfl) ?_
  refine lv_bipush (pc := 10) (v := 40) hx hb dX3_init_10 (by decide) ?_
  refine z_newI (pc := 12) (N := 40) hx hb hts hK hA hT rfl (Nat.le_of_ble_eq_true rfl) (Nat.le_of_ble_eq_true rfl) (Nat.le_of_ble_eq_true rfl) (Nat.le_of_ble_eq_true rfl) dX3_init_12 (fun q1 => [(h0, .inr (3, [.int 1, .int 0, .int 0, .int 0, .null, .null, .null, .null, .null, .null, .null, .null, .null, .null])), (q1, .inl (cy 0, 40, .inl (kc 0)))]) (fun _ => rfl) (fun q1 H hT => ?_)
  refine z_putF (pc := 14) (ty := .array .int) hx hb hts hown hin hK hT 0 3 4 (by decide +kernel) rfl rfl rfl rfl (by decide) rfl w1_74 (Nat.le_of_ble_eq_true rfl) dX3_init_14 [(h0, .inr (3, [.int 1, .int 0, .int 0, .int 0, .ref q1, .null, .null, .null, .null, .null, .null, .null, .null, .null])), (q1, .inl (cy 0, 40, .inl (kc 0)))] rfl (fun H locs hT => ?_)
  refine lv_aload_n (pc := 17) hx hb dX3_init_17 rfl (lv_at hl 0 rfl) ?_
  refine lv_bipush (pc := 18) (v := 120) hx hb dX3_init_18 (by decide) ?_
  refine z_newI (pc := 20) (N := 120) hx hb hts hK hA hT rfl (Nat.le_of_ble_eq_true rfl) (Nat.le_of_ble_eq_true rfl) (Nat.le_of_ble_eq_true rfl) (Nat.le_of_ble_eq_true rfl) dX3_init_20 (fun q2 => [(h0, .inr (3, [.int 1, .int 0, .int 0, .int 0, .ref q1, .null, .null, .null, .null, .null, .null, .null, .null, .null])), (q1, .inl (cy 0, 40, .inl (kc 0))), (q2, .inl (cy 0, 120, .inl (kc 0)))]) (fun _ => rfl) (fun q2 H hT => ?_)
  refine z_putF (pc := 22) (ty := .array .int) hx hb hts hown hin hK hT 0 3 5 (by decide +kernel) rfl rfl rfl rfl (by decide) rfl w1_80 (Nat.le_of_ble_eq_true rfl) dX3_init_22 [(h0, .inr (3, [.int 1, .int 0, .int 0, .int 0, .ref q1, .ref q2, .null, .null, .null, .null, .null, .null, .null, .null])), (q1, .inl (cy 0, 40, .inl (kc 0))), (q2, .inl (cy 0, 120, .inl (kc 0)))] rfl (fun H locs hT => ?_)
  refine lv_aload_n (pc := 25) hx hb dX3_init_25 rfl (lv_at hl 0 rfl) ?_
  refine lv_bipush (pc := 26) (v := 120) hx hb dX3_init_26 (by decide) ?_
  refine z_newI (pc := 28) (N := 120) hx hb hts hK hA hT rfl (Nat.le_of_ble_eq_true rfl) (Nat.le_of_ble_eq_true rfl) (Nat.le_of_ble_eq_true rfl) (Nat.le_of_ble_eq_true rfl) dX3_init_28 (fun q3 => [(h0, .inr (3, [.int 1, .int 0, .int 0, .int 0, .ref q1, .ref q2, .null, .null, .null, .null, .null, .null, .null, .null])), (q1, .inl (cy 0, 40, .inl (kc 0))), (q2, .inl (cy 0, 120, .inl (kc 0))), (q3, .inl (cy 0, 120, .inl (kc 0)))]) (fun _ => rfl) (fun q3 H hT => ?_)
  refine z_putF (pc := 30) (ty := .array .int) hx hb hts hown hin hK hT 0 3 6 (by decide +kernel) rfl rfl rfl rfl (by decide) rfl w1_86 (Nat.le_of_ble_eq_true rfl) dX3_init_30 [(h0, .inr (3, [.int 1, .int 0, .int 0, .int 0, .ref q1, .ref q2, .ref q3, .null, .null, .null, .null, .null, .null, .null])), (q1, .inl (cy 0, 40, .inl (kc 0))), (q2, .inl (cy 0, 120, .inl (kc 0))), (q3, .inl (cy 0, 120, .inl (kc 0)))] rfl (fun H locs hT => ?_)
  refine lv_aload_n (pc := 33) hx hb dX3_init_33 rfl (lv_at hl 0 rfl) ?_
  refine lv_bipush (pc := 34) (v := 120) hx hb dX3_init_34 (by decide) ?_
  refine z_newI (pc := 36) (N := 120) hx hb hts hK hA hT rfl (Nat.le_of_ble_eq_true rfl) (Nat.le_of_ble_eq_true rfl) (Nat.le_of_ble_eq_true rfl) (Nat.le_of_ble_eq_true rfl) dX3_init_36 (fun q4 => [(h0, .inr (3, [.int 1, .int 0, .int 0, .int 0, .ref q1, .ref q2, .ref q3, .null, .null, .null, .null, .null, .null, .null])), (q1, .inl (cy 0, 40, .inl (kc 0))), (q2, .inl (cy 0, 120, .inl (kc 0))), (q3, .inl (cy 0, 120, .inl (kc 0))), (q4, .inl (cy 0, 120, .inl (kc 0)))]) (fun _ => rfl) (fun q4 H hT => ?_)
  refine z_putF (pc := 38) (ty := .array .int) hx hb hts hown hin hK hT 0 3 7 (by decide +kernel) rfl rfl rfl rfl (by decide) rfl w1_94 (Nat.le_of_ble_eq_true rfl) dX3_init_38 [(h0, .inr (3, [.int 1, .int 0, .int 0, .int 0, .ref q1, .ref q2, .ref q3, .ref q4, .null, .null, .null, .null, .null, .null])), (q1, .inl (cy 0, 40, .inl (kc 0))), (q2, .inl (cy 0, 120, .inl (kc 0))), (q3, .inl (cy 0, 120, .inl (kc 0))), (q4, .inl (cy 0, 120, .inl (kc 0)))] rfl (fun H locs hT => ?_)
  refine lv_aload_n (pc := 41) hx hb dX3_init_41 rfl (lv_at hl 0 rfl) ?_
  refine lv_bipush (pc := 42) (v := 120) hx hb dX3_init_42 (by decide) ?_
  refine z_newI (pc := 44) (N := 120) hx hb hts hK hA hT rfl (Nat.le_of_ble_eq_true rfl) (Nat.le_of_ble_eq_true rfl) (Nat.le_of_ble_eq_true rfl) (Nat.le_of_ble_eq_true rfl) dX3_init_44 (fun q5 => [(h0, .inr (3, [.int 1, .int 0, .int 0, .int 0, .ref q1, .ref q2, .ref q3, .ref q4, .null, .null, .null, .null, .null, .null])), (q1, .inl (cy 0, 40, .inl (kc 0))), (q2, .inl (cy 0, 120, .inl (kc 0))), (q3, .inl (cy 0, 120, .inl (kc 0))), (q4, .inl (cy 0, 120, .inl (kc 0))), (q5, .inl (cy 0, 120, .inl (kc 0)))]) (fun _ => rfl) (fun q5 H hT => ?_)
  refine z_putF (pc := 46) (ty := .array .int) hx hb hts hown hin hK hT 0 3 8 (by decide +kernel) rfl rfl rfl rfl (by decide) rfl w1_102 (Nat.le_of_ble_eq_true rfl) dX3_init_46 [(h0, .inr (3, [.int 1, .int 0, .int 0, .int 0, .ref q1, .ref q2, .ref q3, .ref q4, .ref q5, .null, .null, .null, .null, .null])), (q1, .inl (cy 0, 40, .inl (kc 0))), (q2, .inl (cy 0, 120, .inl (kc 0))), (q3, .inl (cy 0, 120, .inl (kc 0))), (q4, .inl (cy 0, 120, .inl (kc 0))), (q5, .inl (cy 0, 120, .inl (kc 0)))] rfl (fun H locs hT => ?_)
  refine lv_aload_n (pc := 49) hx hb dX3_init_49 rfl (lv_at hl 0 rfl) ?_
  refine lv_bipush (pc := 50) (v := 120) hx hb dX3_init_50 (by decide) ?_
  refine z_newI (pc := 52) (N := 120) hx hb hts hK hA hT rfl (Nat.le_of_ble_eq_true rfl) (Nat.le_of_ble_eq_true rfl) (Nat.le_of_ble_eq_true rfl) (Nat.le_of_ble_eq_true rfl) dX3_init_52 (fun q6 => [(h0, .inr (3, [.int 1, .int 0, .int 0, .int 0, .ref q1, .ref q2, .ref q3, .ref q4, .ref q5, .null, .null, .null, .null, .null])), (q1, .inl (cy 0, 40, .inl (kc 0))), (q2, .inl (cy 0, 120, .inl (kc 0))), (q3, .inl (cy 0, 120, .inl (kc 0))), (q4, .inl (cy 0, 120, .inl (kc 0))), (q5, .inl (cy 0, 120, .inl (kc 0))), (q6, .inl (cy 0, 120, .inl (kc 0)))]) (fun _ => rfl) (fun q6 H hT => ?_)
  refine z_putF (pc := 54) (ty := .array .int) hx hb hts hown hin hK hT 0 3 9 (by decide +kernel) rfl rfl rfl rfl (by decide) rfl w1_107 (Nat.le_of_ble_eq_true rfl) dX3_init_54 [(h0, .inr (3, [.int 1, .int 0, .int 0, .int 0, .ref q1, .ref q2, .ref q3, .ref q4, .ref q5, .ref q6, .null, .null, .null, .null])), (q1, .inl (cy 0, 40, .inl (kc 0))), (q2, .inl (cy 0, 120, .inl (kc 0))), (q3, .inl (cy 0, 120, .inl (kc 0))), (q4, .inl (cy 0, 120, .inl (kc 0))), (q5, .inl (cy 0, 120, .inl (kc 0))), (q6, .inl (cy 0, 120, .inl (kc 0)))] rfl (fun H locs hT => ?_)
  refine lv_aload_n (pc := 57) hx hb dX3_init_57 rfl (lv_at hl 0 rfl) ?_
  refine lv_bipush (pc := 58) (v := 41) hx hb dX3_init_58 (by decide) ?_
  refine z_newI (pc := 60) (N := 41) hx hb hts hK hA hT rfl (Nat.le_of_ble_eq_true rfl) (Nat.le_of_ble_eq_true rfl) (Nat.le_of_ble_eq_true rfl) (Nat.le_of_ble_eq_true rfl) dX3_init_60 (fun q7 => [(h0, .inr (3, [.int 1, .int 0, .int 0, .int 0, .ref q1, .ref q2, .ref q3, .ref q4, .ref q5, .ref q6, .null, .null, .null, .null])), (q1, .inl (cy 0, 40, .inl (kc 0))), (q2, .inl (cy 0, 120, .inl (kc 0))), (q3, .inl (cy 0, 120, .inl (kc 0))), (q4, .inl (cy 0, 120, .inl (kc 0))), (q5, .inl (cy 0, 120, .inl (kc 0))), (q6, .inl (cy 0, 120, .inl (kc 0))), (q7, .inl (cy 0, 41, .inl (kc 0)))]) (fun _ => rfl) (fun q7 H hT => ?_)
  refine z_putF (pc := 62) (ty := .array .int) hx hb hts hown hin hK hT 0 3 10 (by decide +kernel) rfl rfl rfl rfl (by decide) rfl w1_115 (Nat.le_of_ble_eq_true rfl) dX3_init_62 [(h0, .inr (3, [.int 1, .int 0, .int 0, .int 0, .ref q1, .ref q2, .ref q3, .ref q4, .ref q5, .ref q6, .ref q7, .null, .null, .null])), (q1, .inl (cy 0, 40, .inl (kc 0))), (q2, .inl (cy 0, 120, .inl (kc 0))), (q3, .inl (cy 0, 120, .inl (kc 0))), (q4, .inl (cy 0, 120, .inl (kc 0))), (q5, .inl (cy 0, 120, .inl (kc 0))), (q6, .inl (cy 0, 120, .inl (kc 0))), (q7, .inl (cy 0, 41, .inl (kc 0)))] rfl (fun H locs hT => ?_)
  refine lv_aload_n (pc := 65) hx hb dX3_init_65 rfl (lv_at hl 0 rfl) ?_
  refine lv_bipush (pc := 66) (v := 120) hx hb dX3_init_66 (by decide) ?_
  refine z_newI (pc := 68) (N := 120) hx hb hts hK hA hT rfl (Nat.le_of_ble_eq_true rfl) (Nat.le_of_ble_eq_true rfl) (Nat.le_of_ble_eq_true rfl) (Nat.le_of_ble_eq_true rfl) dX3_init_68 (fun q8 => [(h0, .inr (3, [.int 1, .int 0, .int 0, .int 0, .ref q1, .ref q2, .ref q3, .ref q4, .ref q5, .ref q6, .ref q7, .null, .null, .null])), (q1, .inl (cy 0, 40, .inl (kc 0))), (q2, .inl (cy 0, 120, .inl (kc 0))), (q3, .inl (cy 0, 120, .inl (kc 0))), (q4, .inl (cy 0, 120, .inl (kc 0))), (q5, .inl (cy 0, 120, .inl (kc 0))), (q6, .inl (cy 0, 120, .inl (kc 0))), (q7, .inl (cy 0, 41, .inl (kc 0))), (q8, .inl (cy 0, 120, .inl (kc 0)))]) (fun _ => rfl) (fun q8 H hT => ?_)
  refine z_putF (pc := 70) (ty := .array .int) hx hb hts hown hin hK hT 0 3 11 (by decide +kernel) rfl rfl rfl rfl (by decide) rfl w1_121 (Nat.le_of_ble_eq_true rfl) dX3_init_70 [(h0, .inr (3, [.int 1, .int 0, .int 0, .int 0, .ref q1, .ref q2, .ref q3, .ref q4, .ref q5, .ref q6, .ref q7, .ref q8, .null, .null])), (q1, .inl (cy 0, 40, .inl (kc 0))), (q2, .inl (cy 0, 120, .inl (kc 0))), (q3, .inl (cy 0, 120, .inl (kc 0))), (q4, .inl (cy 0, 120, .inl (kc 0))), (q5, .inl (cy 0, 120, .inl (kc 0))), (q6, .inl (cy 0, 120, .inl (kc 0))), (q7, .inl (cy 0, 41, .inl (kc 0))), (q8, .inl (cy 0, 120, .inl (kc 0)))] rfl (fun H locs hT => ?_)
  refine lv_aload_n (pc := 73) hx hb dX3_init_73 rfl (lv_at hl 0 rfl) ?_
  refine lv_bipush (pc := 74) (v := 41) hx hb dX3_init_74 (by decide) ?_
  refine z_newI (pc := 76) (N := 41) hx hb hts hK hA hT rfl (Nat.le_of_ble_eq_true rfl) (Nat.le_of_ble_eq_true rfl) (Nat.le_of_ble_eq_true rfl) (Nat.le_of_ble_eq_true rfl) dX3_init_76 (fun q9 => [(h0, .inr (3, [.int 1, .int 0, .int 0, .int 0, .ref q1, .ref q2, .ref q3, .ref q4, .ref q5, .ref q6, .ref q7, .ref q8, .null, .null])), (q1, .inl (cy 0, 40, .inl (kc 0))), (q2, .inl (cy 0, 120, .inl (kc 0))), (q3, .inl (cy 0, 120, .inl (kc 0))), (q4, .inl (cy 0, 120, .inl (kc 0))), (q5, .inl (cy 0, 120, .inl (kc 0))), (q6, .inl (cy 0, 120, .inl (kc 0))), (q7, .inl (cy 0, 41, .inl (kc 0))), (q8, .inl (cy 0, 120, .inl (kc 0))), (q9, .inl (cy 0, 41, .inl (kc 0)))]) (fun _ => rfl) (fun q9 H hT => ?_)
  refine z_putF (pc := 78) (ty := .array .int) hx hb hts hown hin hK hT 0 3 12 (by decide +kernel) rfl rfl rfl rfl (by decide) rfl w1_127 (Nat.le_of_ble_eq_true rfl) dX3_init_78 [(h0, .inr (3, [.int 1, .int 0, .int 0, .int 0, .ref q1, .ref q2, .ref q3, .ref q4, .ref q5, .ref q6, .ref q7, .ref q8, .ref q9, .null])), (q1, .inl (cy 0, 40, .inl (kc 0))), (q2, .inl (cy 0, 120, .inl (kc 0))), (q3, .inl (cy 0, 120, .inl (kc 0))), (q4, .inl (cy 0, 120, .inl (kc 0))), (q5, .inl (cy 0, 120, .inl (kc 0))), (q6, .inl (cy 0, 120, .inl (kc 0))), (q7, .inl (cy 0, 41, .inl (kc 0))), (q8, .inl (cy 0, 120, .inl (kc 0))), (q9, .inl (cy 0, 41, .inl (kc 0)))] rfl (fun H locs hT => ?_)
  refine lv_aload_n (pc := 81) hx hb dX3_init_81 rfl (lv_at hl 0 rfl) ?_
  refine lv_bipush (pc := 82) (v := 120) hx hb dX3_init_82 (by decide) ?_
  refine z_newI (pc := 84) (N := 120) hx hb hts hK hA hT rfl (Nat.le_of_ble_eq_true rfl) (Nat.le_of_ble_eq_true rfl) (Nat.le_of_ble_eq_true rfl) (Nat.le_of_ble_eq_true rfl) dX3_init_84 (fun q10 => [(h0, .inr (3, [.int 1, .int 0, .int 0, .int 0, .ref q1, .ref q2, .ref q3, .ref q4, .ref q5, .ref q6, .ref q7, .ref q8, .ref q9, .null])), (q1, .inl (cy 0, 40, .inl (kc 0))), (q2, .inl (cy 0, 120, .inl (kc 0))), (q3, .inl (cy 0, 120, .inl (kc 0))), (q4, .inl (cy 0, 120, .inl (kc 0))), (q5, .inl (cy 0, 120, .inl (kc 0))), (q6, .inl (cy 0, 120, .inl (kc 0))), (q7, .inl (cy 0, 41, .inl (kc 0))), (q8, .inl (cy 0, 120, .inl (kc 0))), (q9, .inl (cy 0, 41, .inl (kc 0))), (q10, .inl (cy 0, 120, .inl (kc 0)))]) (fun _ => rfl) (fun q10 H hT => ?_)
  refine z_putF (pc := 86) (ty := .array .int) hx hb hts hown hin hK hT 0 3 13 (by decide +kernel) rfl rfl rfl rfl (by decide) rfl w1_129 (Nat.le_of_ble_eq_true rfl) dX3_init_86 [(h0, .inr (3, [.int 1, .int 0, .int 0, .int 0, .ref q1, .ref q2, .ref q3, .ref q4, .ref q5, .ref q6, .ref q7, .ref q8, .ref q9, .ref q10])), (q1, .inl (cy 0, 40, .inl (kc 0))), (q2, .inl (cy 0, 120, .inl (kc 0))), (q3, .inl (cy 0, 120, .inl (kc 0))), (q4, .inl (cy 0, 120, .inl (kc 0))), (q5, .inl (cy 0, 120, .inl (kc 0))), (q6, .inl (cy 0, 120, .inl (kc 0))), (q7, .inl (cy 0, 41, .inl (kc 0))), (q8, .inl (cy 0, 120, .inl (kc 0))), (q9, .inl (cy 0, 41, .inl (kc 0))), (q10, .inl (cy 0, 120, .inl (kc 0)))] rfl (fun H locs hT => ?_)
  refine lv_aload_n (pc := 89) hx hb dX3_init_89 rfl (lv_at hl 0 rfl) ?_
  refine z_get (pc := 90) hx hb hts hown hK hT 0 3 4 rfl rfl (by decide) rfl w1_74 rfl dX3_init_90 ?_
  refine lv_iconst (pc := 93) (v := (-1)) hx hb dX3_init_93 (by decide) ?_
  refine z_cSV (pc := 94) hx hb hml hown hts hK hA hT lkS_RX3_46 (k_fillI l G cy q1 40 (-1) (kc 0) (Nat.le_of_ble_eq_true rfl)) [1] [0, 2, 3, 4, 5, 6, 7, 8, 9, 10] rfl rfl rfl rfl rfl (by decide) rfl hl.1 rfl (Nat.le_of_ble_eq_true rfl) dX3_init_94 ⟨Nat.le_of_ble_eq_true rfl, Nat.le_of_ble_eq_true rfl⟩ (fun _ => [(h0, .inr (3, [.int 1, .int 0, .int 0, .int 0, .ref q1, .ref q2, .ref q3, .ref q4, .ref q5, .ref q6, .ref q7, .ref q8, .ref q9, .ref q10])), (q2, .inl (cy 0, 120, .inl (kc 0))), (q3, .inl (cy 0, 120, .inl (kc 0))), (q4, .inl (cy 0, 120, .inl (kc 0))), (q5, .inl (cy 0, 120, .inl (kc 0))), (q6, .inl (cy 0, 120, .inl (kc 0))), (q7, .inl (cy 0, 41, .inl (kc 0))), (q8, .inl (cy 0, 120, .inl (kc 0))), (q9, .inl (cy 0, 41, .inl (kc 0))), (q10, .inl (cy 0, 120, .inl (kc 0))), (q1, .inl (cy 0, 40, .inl (kc (-1))))]) (fun _ => rfl) (fun qs11 H locs hT => ?_)
  exact z_vret (pc := 97) hx hb hr hlk hT (fun _ => (fun k => [q1, q2, q3, q4, q5, q6, q7, q8, q9, q10].getD k 0)) [0, 10, 1, 2, 3, 4, 5, 6, 7, 8, 9] rfl rfl (Nat.le_of_ble_eq_true rfl) (Nat.le_of_ble_eq_true rfl) dX3_init_97
