theorem w4_49 : (Cond.constant "CostBench$Machine" (52 : Nat) (1000000 : Int32)) ∈ lwg := lwg_t (tb4 49 rfl) rfl
theorem w1_70 : (Cond.fieldLink "CostBench$Machine" (53 : Nat) "CostBench$Machine" "tooLarge" "Z") ∈ lwg := lwg_t (tb1 70 rfl) rfl
theorem w4_50 : (Cond.methodLink "CostBench$Machine" (57 : Nat) ⟨"java/lang/Math", "min", "(II)I"⟩) ∈ lwg := lwg_t (tb4 50 rfl) rfl
theorem w1_50 : (Cond.fieldLink "CostBench$Machine" (9 : Nat) "CostBench$Machine" "states" "I") ∈ lwg := lwg_t (tb1 50 rfl) rfl
theorem w1_58 : (Cond.fieldLink "CostBench$Machine" (63 : Nat) "CostBench$Machine" "startCost" "I") ∈ lwg := lwg_t (tb1 58 rfl) rfl
theorem w1_64 : (Cond.fieldLink "CostBench$Machine" (66 : Nat) "CostBench$Machine" "arcs" "I") ∈ lwg := lwg_t (tb1 64 rfl) rfl
theorem w1_74 : (Cond.fieldLink "CostBench$Machine" (15 : Nat) "CostBench$Machine" "ending" "[I") ∈ lwg := lwg_t (tb1 74 rfl) rfl
theorem w1_49 : (Cond.code ⟨"java/util/Arrays", "fill", "([II)V"⟩ prog_36_method_103_code (4 : Nat) (Option.none : Option FieldType)) ∈ lwg := lwg_t (tb1 49 rfl) rfl
theorem w1_47 : (Cond.methodLink "CostBench$Machine" (46 : Nat) ⟨"java/util/Arrays", "fill", "([II)V"⟩) ∈ lwg := lwg_t (tb1 47 rfl) rfl
theorem w1_48 : (Cond.static ⟨"java/util/Arrays", "fill", "([II)V"⟩) ∈ lwg := lwg_t (tb1 48 rfl) rfl
theorem lkS_RX3_46 : zLS "CostBench$Machine" 46 yJ7_fill_53178 cJ7_fill_53178 4 none 2 := ⟨w1_47, w1_48, w1_3, w1_49, ⟨by decide +kernel, by decide +kernel, by decide +kernel⟩, by decide⟩
theorem dX3_begin_0 : decode cX3_begin 0 = .ok (.aload_n 0, 1) := by decide +kernel
theorem dX3_begin_1 : decode cX3_begin 1 = .ok (.iload_n 1, 1) := by decide +kernel
theorem dX3_begin_2 : decode cX3_begin 2 = .ok (.bipush 40, 2) := by decide +kernel
theorem dX3_begin_4 : decode cX3_begin 4 = .ok (.if_icmp .gt 9, 3) := by decide +kernel
theorem dX3_begin_7 : decode cX3_begin 7 = .ok (.iload_n 2, 1) := by decide +kernel
theorem dX3_begin_8 : decode cX3_begin 8 = .ok (.ldc 52, 2) := by decide +kernel
theorem dX3_begin_10 : decode cX3_begin 10 = .ok (.if_icmp .le 7, 3) := by decide +kernel
theorem dX3_begin_17 : decode cX3_begin 17 = .ok (.iconst 0, 1) := by decide +kernel
theorem dX3_begin_18 : decode cX3_begin 18 = .ok (.putfield 53, 3) := by decide +kernel
theorem dX3_begin_21 : decode cX3_begin 21 = .ok (.aload_n 0, 1) := by decide +kernel
theorem dX3_begin_22 : decode cX3_begin 22 = .ok (.iload_n 1, 1) := by decide +kernel
theorem dX3_begin_23 : decode cX3_begin 23 = .ok (.bipush 40, 2) := by decide +kernel
theorem dX3_begin_25 : decode cX3_begin 25 = .ok (.invokestatic 57, 3) := by decide +kernel
theorem dX3_begin_28 : decode cX3_begin 28 = .ok (.putfield 9, 3) := by decide +kernel
theorem dX3_begin_31 : decode cX3_begin 31 = .ok (.aload_n 0, 1) := by decide +kernel
theorem dX3_begin_32 : decode cX3_begin 32 = .ok (.iload_n 2, 1) := by decide +kernel
theorem dX3_begin_33 : decode cX3_begin 33 = .ok (.putfield 63, 3) := by decide +kernel
theorem dX3_begin_36 : decode cX3_begin 36 = .ok (.aload_n 0, 1) := by decide +kernel
theorem dX3_begin_37 : decode cX3_begin 37 = .ok (.iconst 0, 1) := by decide +kernel
theorem dX3_begin_38 : decode cX3_begin 38 = .ok (.putfield 66, 3) := by decide +kernel
theorem dX3_begin_41 : decode cX3_begin 41 = .ok (.aload_n 0, 1) := by decide +kernel
theorem dX3_begin_42 : decode cX3_begin 42 = .ok (.getfield 15, 3) := by decide +kernel
theorem dX3_begin_45 : decode cX3_begin 45 = .ok (.iconst (-1), 1) := by decide +kernel
theorem dX3_begin_46 : decode cX3_begin 46 = .ok (.invokestatic 46, 3) := by decide +kernel
theorem dX3_begin_49 : decode cX3_begin 49 = .ok (.return_, 1) := by decide +kernel
theorem dX3_isPlain_0 : decode cX3_isPlain 0 = .ok (.iconst 0, 1) := by decide +kernel
theorem dX3_isPlain_1 : decode cX3_isPlain 1 = .ok (.istore_n 1, 1) := by decide +kernel
theorem dX3_isPlain_2 : decode cX3_isPlain 2 = .ok (.iload_n 1, 1) := by decide +kernel
theorem dX3_isPlain_3 : decode cX3_isPlain 3 = .ok (.aload_n 0, 1) := by decide +kernel
theorem dX3_isPlain_4 : decode cX3_isPlain 4 = .ok (.getfield 66, 3) := by decide +kernel
theorem dX3_isPlain_7 : decode cX3_isPlain 7 = .ok (.if_icmp .ge 35, 3) := by decide +kernel
theorem dX3_isPlain_42 : decode cX3_isPlain 42 = .ok (.iconst 1, 1) := by decide +kernel
theorem dX3_isPlain_43 : decode cX3_isPlain 43 = .ok (.ireturn, 1) := by decide +kernel
set_option maxHeartbeats 4000000 in
set_option maxRecDepth 100000 in
theorem k0_X3_begin (l : Launch) (G : va_G) (cy : Nat → ClassId) (h0 h1 h2 h3 h4 h5 h6 h7 h8 h9 h10 : Nat) : zV l G cy yX3_begin cX3_begin 3 none 1 0 0 [.ref h0, .int 2, .int 0] [(h0, .inr (3, [.int 1, .int 0, .int 0, .int 0, .ref h1, .ref h2, .ref h3, .ref h4, .ref h5, .ref h6, .ref h7, .ref h8, .ref h9, .ref h10])), (h1, .inl (cy 0, 40, .inl (kc (-1))))] (fun _ => [(h0, .inr (3, [.int 2, .int 0, .int 0, .int 0, .ref h1, .ref h2, .ref h3, .ref h4, .ref h5, .ref h6, .ref h7, .ref h8, .ref h9, .ref h10])), (h1, .inl (cy 0, 40, .inl (kc (-1))))]) := by
  refine zM.of (by decide) (Nat.le_of_ble_eq_true rfl) ?_
  intro p e s m args below meth c ls A hx hb hml hown hts hlk hr hin hl hK hA hT
  have hown : s.vm.findClass "CostBench$Machine" = some m.cls := hown
  have hl : lv_has ls 3 [(0, .ref h0), (1, .int 2), (2, .int 0)] := hl
  refine lv_aload_n (pc := 0) hx hb dX3_begin_0 rfl (lv_at hl 0 rfl) ?_
  refine lv_iload_n (pc := 1) hx hb dX3_begin_1 rfl (lv_at hl 1 rfl) ?_
  refine lv_bipush (pc := 2) (v := 40) hx hb dX3_begin_2 (by decide) ?_
  refine zb_icmp_gt_f (pc := 4) (tgt := 13) hx hb dX3_begin_4 (by decide) (by decide) ?_
  refine lv_iload_n (pc := 7) hx hb dX3_begin_7 rfl (lv_at hl 2 rfl) ?_
  refine lv_ldc (pc := 8) (v := 1000000) hx hb hown (hts _ w4_49) dX3_begin_8 ?_
  refine zb_icmp_le_t (pc := 10) (tgt := 17) hx hb dX3_begin_10 (by decide) (by decide) ?_
  refine lv_iconst (pc := 17) (v := 0) hx hb dX3_begin_17 (by decide) ?_
  refine z_put (pc := 18) (ty := .boolean) hx hb hts hown hK hT 0 3 3 (by decide +kernel) rfl rfl rfl rfl (by decide) rfl w1_70 (Nat.le_of_ble_eq_true rfl) dX3_begin_18 [(h0, .inr (3, [.int 1, .int 0, .int 0, .int 0, .ref h1, .ref h2, .ref h3, .ref h4, .ref h5, .ref h6, .ref h7, .ref h8, .ref h9, .ref h10])), (h1, .inl (cy 0, 40, .inl (kc (-1))))] rfl (fun H locs hT => ?_)
  refine lv_aload_n (pc := 21) hx hb dX3_begin_21 rfl (lv_at hl 0 rfl) ?_
  refine lv_iload_n (pc := 22) hx hb dX3_begin_22 rfl (lv_at hl 1 rfl) ?_
  refine lv_bipush (pc := 23) (v := 40) hx hb dX3_begin_23 (by decide) ?_
  refine z_mmin (pc := 25) (v := 2) hx hb hml hown hts w4_50 hl.1 (Nat.le_of_ble_eq_true rfl) (Nat.le_of_ble_eq_true rfl) (Nat.le_of_ble_eq_true rfl) (by decide) dX3_begin_25 ?_
  refine z_put (pc := 28) (ty := .int) hx hb hts hown hK hT 0 3 0 (by decide +kernel) rfl rfl rfl rfl (by decide) rfl w1_50 (Nat.le_of_ble_eq_true rfl) dX3_begin_28 [(h0, .inr (3, [.int 2, .int 0, .int 0, .int 0, .ref h1, .ref h2, .ref h3, .ref h4, .ref h5, .ref h6, .ref h7, .ref h8, .ref h9, .ref h10])), (h1, .inl (cy 0, 40, .inl (kc (-1))))] rfl (fun H locs hT => ?_)
  refine lv_aload_n (pc := 31) hx hb dX3_begin_31 rfl (lv_at hl 0 rfl) ?_
  refine lv_iload_n (pc := 32) hx hb dX3_begin_32 rfl (lv_at hl 2 rfl) ?_
  refine z_put (pc := 33) (ty := .int) hx hb hts hown hK hT 0 3 1 (by decide +kernel) rfl rfl rfl rfl (by decide) rfl w1_58 (Nat.le_of_ble_eq_true rfl) dX3_begin_33 [(h0, .inr (3, [.int 2, .int 0, .int 0, .int 0, .ref h1, .ref h2, .ref h3, .ref h4, .ref h5, .ref h6, .ref h7, .ref h8, .ref h9, .ref h10])), (h1, .inl (cy 0, 40, .inl (kc (-1))))] rfl (fun H locs hT => ?_)
  refine lv_aload_n (pc := 36) hx hb dX3_begin_36 rfl (lv_at hl 0 rfl) ?_
  refine lv_iconst (pc := 37) (v := 0) hx hb dX3_begin_37 (by decide) ?_
  refine z_put (pc := 38) (ty := .int) hx hb hts hown hK hT 0 3 2 (by decide +kernel) rfl rfl rfl rfl (by decide) rfl w1_64 (Nat.le_of_ble_eq_true rfl) dX3_begin_38 [(h0, .inr (3, [.int 2, .int 0, .int 0, .int 0, .ref h1, .ref h2, .ref h3, .ref h4, .ref h5, .ref h6, .ref h7, .ref h8, .ref h9, .ref h10])), (h1, .inl (cy 0, 40, .inl (kc (-1))))] rfl (fun H locs hT => ?_)
  refine lv_aload_n (pc := 41) hx hb dX3_begin_41 rfl (lv_at hl 0 rfl) ?_
  refine z_get (pc := 42) hx hb hts hown hK hT 0 3 4 rfl rfl (by decide) rfl w1_74 rfl dX3_begin_42 ?_
  refine lv_iconst (pc := 45) (v := (-1)) hx hb dX3_begin_45 (by decide) ?_
  refine z_cSV (pc := 46) hx hb hml hown hts hK hA hT lkS_RX3_46 (k_fillI l G cy h1 40 (-1) (kc (-1)) (Nat.le_of_ble_eq_true rfl)) [1] [0] rfl rfl rfl rfl rfl (by decide) rfl hl.1 rfl (Nat.le_of_ble_eq_true rfl) dX3_begin_46 ⟨Nat.le_of_ble_eq_true rfl, Nat.le_of_ble_eq_true rfl⟩ (fun _ => [(h0, .inr (3, [.int 2, .int 0, .int 0, .int 0, .ref h1, .ref h2, .ref h3, .ref h4, .ref h5, .ref h6, .ref h7, .ref h8, .ref h9, .ref h10])), (h1, .inl (cy 0, 40, .inl (kc (-1))))]) (fun _ => rfl) (fun qs1 H locs hT => ?_)
  exact z_vret (pc := 49) hx hb hr hlk hT (fun _ _ => 0) [0, 1] rfl rfl (Nat.le_of_ble_eq_true rfl) (Nat.le_of_ble_eq_true rfl) dX3_begin_49
set_option maxHeartbeats 4000000 in
set_option maxRecDepth 100000 in
theorem k1_X3_isPlain (l : Launch) (G : va_G) (cy : Nat → ClassId) (h0 h1 h2 h3 h4 h5 h6 h7 h8 h9 h10 : Nat) : zI l G cy yX3_isPlain cX3_isPlain 2 (some .boolean) 0 0 0 [.ref h0] [(h0, .inr (3, [.int 1, .int 0, .int 0, .int 0, .ref h1, .ref h2, .ref h3, .ref h4, .ref h5, .ref h6, .ref h7, .ref h8, .ref h9, .ref h10]))] 1 (fun _ => [(h0, .inr (3, [.int 1, .int 0, .int 0, .int 0, .ref h1, .ref h2, .ref h3, .ref h4, .ref h5, .ref h6, .ref h7, .ref h8, .ref h9, .ref h10]))]) := by
  refine zM.of (by decide) (Nat.le_of_ble_eq_true rfl) ?_
  intro p e s m args below meth c ls A hx hb hml hown hts hlk hr hin hl hK hA hT
  have hown : s.vm.findClass "CostBench$Machine" = some m.cls := hown
  have hl : lv_has ls 2 [(0, .ref h0)] := hl
  refine lv_iconst (pc := 0) (v := 0) hx hb dX3_isPlain_0 (by decide) ?_
  refine lv_istore_n (pc := 1) (lv' := [(1, .int 0), (0, .ref h0)]) hx hb dX3_isPlain_1 rfl hl (by decide) rfl (fun ls hl => ?_)
  refine lv_iload_n (pc := 2) hx hb dX3_isPlain_2 rfl (lv_at hl 0 rfl) ?_
  refine lv_aload_n (pc := 3) hx hb dX3_isPlain_3 rfl (lv_at hl 1 rfl) ?_
  refine z_get (pc := 4) hx hb hts hown hK hT 0 3 2 rfl rfl (by decide) rfl w1_64 rfl dX3_isPlain_4 ?_
  refine zb_icmp_ge_t (pc := 7) (tgt := 42) hx hb dX3_isPlain_7 (by decide) (by decide) ?_
  refine lv_iconst (pc := 42) (v := 1) hx hb dX3_isPlain_42 (by decide) ?_
  exact z_zret (pc := 43) hx hb hr hlk hT (fun _ _ => 0) [0] rfl rfl rfl rfl (Nat.le_of_ble_eq_true rfl) (Nat.le_of_ble_eq_true rfl) dX3_isPlain_43
