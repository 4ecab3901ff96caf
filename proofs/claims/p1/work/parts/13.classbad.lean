theorem dX11_checkThere_9 : decode cX11_checkThere 9 = .ok (.aload_n 0, 1) := by decide +kernel
theorem dX11_checkThere_10 : decode cX11_checkThere 10 = .ok (.getfield 78, 3) := by decide +kernel
theorem dX11_checkThere_13 : decode cX11_checkThere 13 = .ok (.iconst 0, 1) := by decide +kernel
theorem dX11_checkThere_14 : decode cX11_checkThere 14 = .ok (.dup2, 1) := by decide +kernel
theorem dX11_checkThere_15 : decode cX11_checkThere 15 = .ok (.iaload, 1) := by decide +kernel
theorem dX11_checkThere_16 : decode cX11_checkThere 16 = .ok (.iconst 1, 1) := by decide +kernel
theorem dX11_checkThere_17 : decode cX11_checkThere 17 = .ok (.iadd, 1) := by decide +kernel
theorem dX11_checkThere_18 : decode cX11_checkThere 18 = .ok (.iastore, 1) := by decide +kernel
theorem dX11_checkThere_19 : decode cX11_checkThere 19 = .ok (.new 290, 3) := by decide +kernel
theorem dX11_checkThere_22 : decode cX11_checkThere 22 = .ok (.dup, 1) := by decide +kernel
theorem dX11_checkThere_23 : decode cX11_checkThere 23 = .ok (.ldc_w 292, 3) := by decide +kernel
theorem dX11_checkThere_26 : decode cX11_checkThere 26 = .ok (.invokespecial 294, 3) := by decide +kernel
theorem dX11_checkThere_29 : decode cX11_checkThere 29 = .ok (.athrow, 1) := by decide +kernel
theorem dX11_checkValue_10 : decode cX11_checkValue 10 = .ok (.aload_n 0, 1) := by decide +kernel
theorem dX11_checkValue_11 : decode cX11_checkValue 11 = .ok (.getfield 78, 3) := by decide +kernel
theorem dX11_checkValue_14 : decode cX11_checkValue 14 = .ok (.iconst 1, 1) := by decide +kernel
theorem dX11_checkValue_15 : decode cX11_checkValue 15 = .ok (.dup2, 1) := by decide +kernel
theorem dX11_checkValue_16 : decode cX11_checkValue 16 = .ok (.iaload, 1) := by decide +kernel
theorem dX11_checkValue_17 : decode cX11_checkValue 17 = .ok (.iconst 1, 1) := by decide +kernel
theorem dX11_checkValue_18 : decode cX11_checkValue 18 = .ok (.iadd, 1) := by decide +kernel
theorem dX11_checkValue_19 : decode cX11_checkValue 19 = .ok (.iastore, 1) := by decide +kernel
theorem dX11_checkValue_20 : decode cX11_checkValue 20 = .ok (.new 297, 3) := by decide +kernel
theorem dX11_checkValue_23 : decode cX11_checkValue 23 = .ok (.dup, 1) := by decide +kernel
theorem dX11_checkValue_24 : decode cX11_checkValue 24 = .ok (.ldc_w 299, 3) := by decide +kernel
theorem dX11_checkValue_27 : decode cX11_checkValue 27 = .ok (.invokespecial 301, 3) := by decide +kernel
theorem dX11_checkValue_30 : decode cX11_checkValue 30 = .ok (.athrow, 1) := by decide +kernel
theorem dX11_arc_0 : decode cX11_arc 0 = .ok (.aload_n 0, 1) := by decide +kernel
theorem dX11_arc_1 : decode cX11_arc 1 = .ok (.iload_n 1, 1) := by decide +kernel
theorem dX11_arc_2 : decode cX11_arc 2 = .ok (.invokevirtual 99, 3) := by decide +kernel
theorem dX11_arc_5 : decode cX11_arc 5 = .ok (.aload_n 0, 1) := by decide +kernel
theorem dX11_arc_6 : decode cX11_arc 6 = .ok (.getfield 11, 3) := by decide +kernel
theorem dX11_arc_9 : decode cX11_arc 9 = .ok (.iload_n 1, 1) := by decide +kernel
theorem dX11_arc_10 : decode cX11_arc 10 = .ok (.aaload, 1) := by decide +kernel
theorem dX11_arc_11 : decode cX11_arc 11 = .ok (.astore 4, 2) := by decide +kernel
theorem dX11_arc_13 : decode cX11_arc 13 = .ok (.aload_n 0, 1) := by decide +kernel
theorem dX11_arc_14 : decode cX11_arc 14 = .ok (.iload_n 2, 1) := by decide +kernel
theorem dX11_arc_15 : decode cX11_arc 15 = .ok (.aload 4, 2) := by decide +kernel
theorem dX11_arc_17 : decode cX11_arc 17 = .ok (.getfield 120, 3) := by decide +kernel
theorem dX11_arc_20 : decode cX11_arc 20 = .ok (.invokevirtual 176, 3) := by decide +kernel
theorem dX11_text_0 : decode cX11_text 0 = .ok (.aload_n 0, 1) := by decide +kernel
theorem dX11_text_1 : decode cX11_text 1 = .ok (.iload_n 1, 1) := by decide +kernel
theorem dX11_text_2 : decode cX11_text 2 = .ok (.invokevirtual 99, 3) := by decide +kernel
theorem dX11_text_5 : decode cX11_text 5 = .ok (.aload_n 0, 1) := by decide +kernel
theorem dX11_text_6 : decode cX11_text 6 = .ok (.iload_n 2, 1) := by decide +kernel
theorem dX11_text_7 : decode cX11_text 7 = .ok (.iconst 0, 1) := by decide +kernel
theorem dX11_text_8 : decode cX11_text 8 = .ok (.aload_n 0, 1) := by decide +kernel
theorem dX11_text_9 : decode cX11_text 9 = .ok (.getfield 23, 3) := by decide +kernel
theorem dX11_text_12 : decode cX11_text 12 = .ok (.getfield 103, 3) := by decide +kernel
theorem dX11_text_15 : decode cX11_text 15 = .ok (.invokevirtual 106, 3) := by decide +kernel
theorem dX11_status_13 : decode cX11_status 13 = .ok (.iconst (-1), 1) := by decide +kernel
theorem dX11_status_14 : decode cX11_status 14 = .ok (.goto 9, 3) := by decide +kernel
theorem dX12_in_14 : decode cX12_in 14 = .ok (.iconst 0, 1) := by decide +kernel
theorem dX12_status_23 : decode cX12_status 23 = .ok (.iconst (-1), 1) := by decide +kernel
set_option maxHeartbeats 4000000 in
set_option maxRecDepth 100000 in
theorem k503_X11_checkThere (l : Launch) (G : va_G) (cy : Nat → ClassId) (hl0 : l.stackTraces = false) (h0 h1 h2 h3 h4 h5 h6 h7 h8 h9 h10 h11 : Nat) (x0 : Int32) (hf0 : (x0 : Int32) < 0) : zX l G cy yX11_checkThere cX11_checkThere 3 none 0 [.ref h0, .int x0, .int 6] [(h0, .inr (11, [.ref h2, .ref h3, .ref h4, .ref h5, .ref h6, .ref h7, .ref h8, .ref h9, .ref h10, .ref h11, .ref h1, .int (-1), .int (-1), .int (-1), .int (-1)])), (h1, .inl (cy 0, 3, .inl (kc 0)))] "java/util/NoSuchElementException" zNV := by
  refine zX.of (by decide) (Nat.le_of_ble_eq_true rfl) ?_
  intro p e s m args below meth c ls A hx hb hml hown hts hlk htab hl hK hE hA hT
  have hown : s.vm.findClass "CostBench" = some m.cls := hown
  have hl : lv_has ls 3 [(0, .ref h0), (1, .int x0), (2, .int 6)] := hl
  refine lv_iload_n (pc := 0) hx hb dX11_checkThere_0 rfl (lv_at hl 1 rfl) ?_
  refine zb_if_lt_t (pc := 1) (tgt := 9) hx hb dX11_checkThere_1 (by decide) hf0 ?_
  refine lv_aload_n (pc := 9) hx hb dX11_checkThere_9 rfl (lv_at hl 0 rfl) ?_
  refine z_get (pc := 10) hx hb hts hown hK hT 0 11 10 rfl rfl (by decide) rfl w3_19 rfl dX11_checkThere_10 ?_
  refine lv_iconst (pc := 13) (v := 0) hx hb dX11_checkThere_13 (by decide) ?_
  refine lv_dup2_11 (pc := 14) hx hb dX11_checkThere_14 rfl rfl ?_
  refine z_iald (pc := 15) (v := 0) hx hb hK hT 1 0 rfl rfl (by decide) (by decide) rfl dX11_checkThere_15 ?_
  refine lv_iconst (pc := 16) (v := 1) hx hb dX11_checkThere_16 (by decide) ?_
  refine z_iadd (pc := 17) (v := 1) hx hb dX11_checkThere_17 (by decide) ?_
  refine z_iast (pc := 18) hx hb hK hT 1 0 rfl rfl (by decide) (by decide) dX11_checkThere_18 (upd (kc 0) 0 1) (fun _ _ => rfl) [(h0, .inr (11, [.ref h2, .ref h3, .ref h4, .ref h5, .ref h6, .ref h7, .ref h8, .ref h9, .ref h10, .ref h11, .ref h1, .int (-1), .int (-1), .int (-1), .int (-1)])), (h1, .inl (cy 0, 3, .inl (upd (kc 0) 0 1)))] rfl (fun H locs hT => ?_)
  exact z_throwN (pc := 19) hl0 hx hb hml hown hts hlk htab hE hT hl.1 (Nat.le_of_ble_eq_true rfl) (Nat.le_of_ble_eq_true rfl) (Nat.le_of_ble_eq_true rfl) dX11_checkThere_19 dX11_checkThere_22 dX11_checkThere_23 dX11_checkThere_26 dX11_checkThere_29
set_option maxHeartbeats 4000000 in
set_option maxRecDepth 100000 in
theorem k504_X11_checkSlot (l : Launch) (G : va_G) (cy : Nat → ClassId) (hl0 : l.stackTraces = false) (h0 h1 h2 h3 h4 h5 h6 h7 h8 h9 h10 h11 : Nat) (x0 : Int32) (hf0 : (x0 : Int32) < 0) : zX l G cy yX11_checkSlot cX11_checkSlot 2 none 1 [.ref h0, .int x0] [(h0, .inr (11, [.ref h2, .ref h3, .ref h4, .ref h5, .ref h6, .ref h7, .ref h8, .ref h9, .ref h10, .ref h11, .ref h1, .int (-1), .int (-1), .int (-1), .int (-1)])), (h1, .inl (cy 0, 3, .inl (kc 0)))] "java/util/NoSuchElementException" zNV := by
  refine zX.of (by decide) (Nat.le_of_ble_eq_true rfl) ?_
  intro p e s m args below meth c ls A hx hb hml hown hts hlk htab hl hK hE hA hT
  have hown : s.vm.findClass "CostBench" = some m.cls := hown
  have hl : lv_has ls 2 [(0, .ref h0), (1, .int x0)] := hl
  refine lv_aload_n (pc := 0) hx hb dX11_checkSlot_0 rfl (lv_at hl 0 rfl) ?_
  refine lv_iload_n (pc := 1) hx hb dX11_checkSlot_1 rfl (lv_at hl 1 rfl) ?_
  refine lv_bipush (pc := 2) (v := 6) hx hb dX11_checkSlot_2 (by decide) ?_
  exact z_cVX (pc := 4) hx hb hml hown hts hlk htab hK hE hA hT lkV_RX11_176 (k503_X11_checkThere l G cy hl0 h0 h1 h2 h3 h4 h5 h6 h7 h8 h9 h10 h11 x0 hf0) [0, 1] rfl rfl 0 rfl rfl (by decide) rfl hl.1 rfl (Nat.le_of_ble_eq_true rfl) dX11_checkSlot_4 (Nat.le_of_ble_eq_true rfl) (Nat.le_of_ble_eq_true rfl)
set_option maxHeartbeats 4000000 in
set_option maxRecDepth 100000 in
theorem k505_X11_make (l : Launch) (G : va_G) (cy : Nat → ClassId) (hl0 : l.stackTraces = false) (h0 h1 h2 h3 h4 h5 h6 h7 h8 h9 h10 h11 : Nat) (x0 : Int32) (x1 : Int32) (x2 : Int32) (hf0 : (x1 : Int32) < 0) : zX l G cy yX11_make cX11_make 5 (some .int) 2 [.ref h0, .int x0, .int x1, .int x2] [(h0, .inr (11, [.ref h2, .ref h3, .ref h4, .ref h5, .ref h6, .ref h7, .ref h8, .ref h9, .ref h10, .ref h11, .ref h1, .int (-1), .int (-1), .int (-1), .int (-1)])), (h1, .inl (cy 0, 3, .inl (kc 0)))] "java/util/NoSuchElementException" zNI := by
  refine zX.of (by decide) (Nat.le_of_ble_eq_true rfl) ?_
  intro p e s m args below meth c ls A hx hb hml hown hts hlk htab hl hK hE hA hT
  have hown : s.vm.findClass "CostBench" = some m.cls := hown
  have hl : lv_has ls 5 [(0, .ref h0), (1, .int x0), (2, .int x1), (3, .int x2)] := hl
  refine lv_aload_n (pc := 0) hx hb dX11_make_0 rfl (lv_at hl 0 rfl) ?_
  refine lv_iload_n (pc := 1) hx hb dX11_make_1 rfl (lv_at hl 2 rfl) ?_
  exact z_cVX (pc := 2) hx hb hml hown hts hlk htab hK hE hA hT lkV_RX11_99 (k504_X11_checkSlot l G cy hl0 h0 h1 h2 h3 h4 h5 h6 h7 h8 h9 h10 h11 x1 hf0) [0, 1] rfl rfl 0 rfl rfl (by decide) rfl hl.1 rfl (Nat.le_of_ble_eq_true rfl) dX11_make_2 (Nat.le_of_ble_eq_true rfl) (Nat.le_of_ble_eq_true rfl)
set_option maxHeartbeats 4000000 in
set_option maxRecDepth 100000 in
theorem k506_X11_checkThere (l : Launch) (G : va_G) (cy : Nat → ClassId) (hl0 : l.stackTraces = false) (h0 h1 h2 h3 h4 h5 h6 h7 h8 h9 h10 h11 : Nat) (x0 : Int32) (hf0 : ¬ (x0 : Int32) < 0) (hf1 : ¬ (x0 : Int32) < 6) : zX l G cy yX11_checkThere cX11_checkThere 3 none 0 [.ref h0, .int x0, .int 6] [(h0, .inr (11, [.ref h2, .ref h3, .ref h4, .ref h5, .ref h6, .ref h7, .ref h8, .ref h9, .ref h10, .ref h11, .ref h1, .int (-1), .int (-1), .int (-1), .int (-1)])), (h1, .inl (cy 0, 3, .inl (kc 0)))] "java/util/NoSuchElementException" zNV := by
  refine zX.of (by decide) (Nat.le_of_ble_eq_true rfl) ?_
  intro p e s m args below meth c ls A hx hb hml hown hts hlk htab hl hK hE hA hT
  have hown : s.vm.findClass "CostBench" = some m.cls := hown
  have hl : lv_has ls 3 [(0, .ref h0), (1, .int x0), (2, .int 6)] := hl
  refine lv_iload_n (pc := 0) hx hb dX11_checkThere_0 rfl (lv_at hl 1 rfl) ?_
  refine zb_if_lt_f (pc := 1) (tgt := 9) hx hb dX11_checkThere_1 (by decide) hf0 ?_
  refine lv_iload_n (pc := 4) hx hb dX11_checkThere_4 rfl (lv_at hl 1 rfl) ?_
  refine lv_iload_n (pc := 5) hx hb dX11_checkThere_5 rfl (lv_at hl 2 rfl) ?_
  refine zb_icmp_lt_f (pc := 6) (tgt := 30) hx hb dX11_checkThere_6 (by decide) hf1 ?_
  refine lv_aload_n (pc := 9) hx hb dX11_checkThere_9 rfl (lv_at hl 0 rfl) ?_
  refine z_get (pc := 10) hx hb hts hown hK hT 0 11 10 rfl rfl (by decide) rfl w3_19 rfl dX11_checkThere_10 ?_
  refine lv_iconst (pc := 13) (v := 0) hx hb dX11_checkThere_13 (by decide) ?_
  refine lv_dup2_11 (pc := 14) hx hb dX11_checkThere_14 rfl rfl ?_
  refine z_iald (pc := 15) (v := 0) hx hb hK hT 1 0 rfl rfl (by decide) (by decide) rfl dX11_checkThere_15 ?_
  refine lv_iconst (pc := 16) (v := 1) hx hb dX11_checkThere_16 (by decide) ?_
  refine z_iadd (pc := 17) (v := 1) hx hb dX11_checkThere_17 (by decide) ?_
  refine z_iast (pc := 18) hx hb hK hT 1 0 rfl rfl (by decide) (by decide) dX11_checkThere_18 (upd (kc 0) 0 1) (fun _ _ => rfl) [(h0, .inr (11, [.ref h2, .ref h3, .ref h4, .ref h5, .ref h6, .ref h7, .ref h8, .ref h9, .ref h10, .ref h11, .ref h1, .int (-1), .int (-1), .int (-1), .int (-1)])), (h1, .inl (cy 0, 3, .inl (upd (kc 0) 0 1)))] rfl (fun H locs hT => ?_)
  exact z_throwN (pc := 19) hl0 hx hb hml hown hts hlk htab hE hT hl.1 (Nat.le_of_ble_eq_true rfl) (Nat.le_of_ble_eq_true rfl) (Nat.le_of_ble_eq_true rfl) dX11_checkThere_19 dX11_checkThere_22 dX11_checkThere_23 dX11_checkThere_26 dX11_checkThere_29
set_option maxHeartbeats 4000000 in
set_option maxRecDepth 100000 in
theorem k507_X11_checkSlot (l : Launch) (G : va_G) (cy : Nat → ClassId) (hl0 : l.stackTraces = false) (h0 h1 h2 h3 h4 h5 h6 h7 h8 h9 h10 h11 : Nat) (x0 : Int32) (hf0 : ¬ (x0 : Int32) < 0) (hf1 : ¬ (x0 : Int32) < 6) : zX l G cy yX11_checkSlot cX11_checkSlot 2 none 1 [.ref h0, .int x0] [(h0, .inr (11, [.ref h2, .ref h3, .ref h4, .ref h5, .ref h6, .ref h7, .ref h8, .ref h9, .ref h10, .ref h11, .ref h1, .int (-1), .int (-1), .int (-1), .int (-1)])), (h1, .inl (cy 0, 3, .inl (kc 0)))] "java/util/NoSuchElementException" zNV := by
  refine zX.of (by decide) (Nat.le_of_ble_eq_true rfl) ?_
  intro p e s m args below meth c ls A hx hb hml hown hts hlk htab hl hK hE hA hT
  have hown : s.vm.findClass "CostBench" = some m.cls := hown
  have hl : lv_has ls 2 [(0, .ref h0), (1, .int x0)] := hl
  refine lv_aload_n (pc := 0) hx hb dX11_checkSlot_0 rfl (lv_at hl 0 rfl) ?_
  refine lv_iload_n (pc := 1) hx hb dX11_checkSlot_1 rfl (lv_at hl 1 rfl) ?_
  refine lv_bipush (pc := 2) (v := 6) hx hb dX11_checkSlot_2 (by decide) ?_
  exact z_cVX (pc := 4) hx hb hml hown hts hlk htab hK hE hA hT lkV_RX11_176 (k506_X11_checkThere l G cy hl0 h0 h1 h2 h3 h4 h5 h6 h7 h8 h9 h10 h11 x0 hf0 hf1) [0, 1] rfl rfl 0 rfl rfl (by decide) rfl hl.1 rfl (Nat.le_of_ble_eq_true rfl) dX11_checkSlot_4 (Nat.le_of_ble_eq_true rfl) (Nat.le_of_ble_eq_true rfl)
set_option maxHeartbeats 4000000 in
set_option maxRecDepth 100000 in
theorem k508_X11_make (l : Launch) (G : va_G) (cy : Nat → ClassId) (hl0 : l.stackTraces = false) (h0 h1 h2 h3 h4 h5 h6 h7 h8 h9 h10 h11 : Nat) (x0 : Int32) (x1 : Int32) (x2 : Int32) (hf0 : ¬ (x1 : Int32) < 0) (hf1 : ¬ (x1 : Int32) < 6) : zX l G cy yX11_make cX11_make 5 (some .int) 2 [.ref h0, .int x0, .int x1, .int x2] [(h0, .inr (11, [.ref h2, .ref h3, .ref h4, .ref h5, .ref h6, .ref h7, .ref h8, .ref h9, .ref h10, .ref h11, .ref h1, .int (-1), .int (-1), .int (-1), .int (-1)])), (h1, .inl (cy 0, 3, .inl (kc 0)))] "java/util/NoSuchElementException" zNI := by
  refine zX.of (by decide) (Nat.le_of_ble_eq_true rfl) ?_
  intro p e s m args below meth c ls A hx hb hml hown hts hlk htab hl hK hE hA hT
  have hown : s.vm.findClass "CostBench" = some m.cls := hown
  have hl : lv_has ls 5 [(0, .ref h0), (1, .int x0), (2, .int x1), (3, .int x2)] := hl
  refine lv_aload_n (pc := 0) hx hb dX11_make_0 rfl (lv_at hl 0 rfl) ?_
  refine lv_iload_n (pc := 1) hx hb dX11_make_1 rfl (lv_at hl 2 rfl) ?_
  exact z_cVX (pc := 2) hx hb hml hown hts hlk htab hK hE hA hT lkV_RX11_99 (k507_X11_checkSlot l G cy hl0 h0 h1 h2 h3 h4 h5 h6 h7 h8 h9 h10 h11 x1 hf0 hf1) [0, 1] rfl rfl 0 rfl rfl (by decide) rfl hl.1 rfl (Nat.le_of_ble_eq_true rfl) dX11_make_2 (Nat.le_of_ble_eq_true rfl) (Nat.le_of_ble_eq_true rfl)
set_option maxHeartbeats 4000000 in
set_option maxRecDepth 100000 in
theorem k509_X11_make (l : Launch) (G : va_G) (cy : Nat → ClassId) (hl0 : l.stackTraces = false) (h0 h1 h2 h3 h4 h5 h6 h7 h8 h9 h10 h11 : Nat) (x0 : Int32) (x1 : Int32) (n0 : Nat) (hlon0 : 0 ≤ n0) (hhin0 : n0 < 6) (hf0 : (x1 : Int32) < 0) : zX l G cy yX11_make cX11_make 5 (some .int) 2 [.ref h0, .int x0, .int (nI n0), .int x1] [(h0, .inr (11, [.ref h2, .ref h3, .ref h4, .ref h5, .ref h6, .ref h7, .ref h8, .ref h9, .ref h10, .ref h11, .ref h1, .int (-1), .int (-1), .int (-1), .int (-1)])), (h1, .inl (cy 0, 3, .inl (kc 0)))] "java/util/NoSuchElementException" zNI := by
  refine zX.of (by decide) (Nat.le_of_ble_eq_true rfl) ?_
  intro p e s m args below meth c ls A hx hb hml hown hts hlk htab hl hK hE hA hT
  have hown : s.vm.findClass "CostBench" = some m.cls := hown
  have hl : lv_has ls 5 [(0, .ref h0), (1, .int x0), (2, .int (nI n0)), (3, .int x1)] := hl
  refine lv_aload_n (pc := 0) hx hb dX11_make_0 rfl (lv_at hl 0 rfl) ?_
  refine lv_iload_n (pc := 1) hx hb dX11_make_1 rfl (lv_at hl 2 rfl) ?_
  refine z_cVV (pc := 2) hx hb hml hown hts hK hA hT lkV_RX11_99 (k26_X11_checkSlot l G cy h0 h2 h3 h4 h5 h6 h7 h8 h9 h10 h11 h1 n0 (by omega) (by omega)) [0] [1] rfl rfl rfl rfl rfl 0 rfl rfl (by decide) rfl hl.1 rfl (Nat.le_of_ble_eq_true rfl) dX11_make_2 ⟨Nat.le_of_ble_eq_true rfl, Nat.le_of_ble_eq_true rfl⟩ (fun _ => [(h1, .inl (cy 0, 3, .inl (kc 0))), (h0, .inr (11, [.ref h2, .ref h3, .ref h4, .ref h5, .ref h6, .ref h7, .ref h8, .ref h9, .ref h10, .ref h11, .ref h1, .int (-1), .int (-1), .int (-1), .int (-1)]))]) (fun _ => rfl) (fun qs1 H locs hT => ?_)
  refine lv_aload_n (pc := 5) hx hb dX11_make_5 rfl (lv_at hl 0 rfl) ?_
  refine lv_iload_n (pc := 6) hx hb dX11_make_6 rfl (lv_at hl 3 rfl) ?_
  exact z_cVX (pc := 7) hx hb hml hown hts hlk htab hK hE hA hT lkV_RX11_99 (k504_X11_checkSlot l G cy hl0 h0 h1 h2 h3 h4 h5 h6 h7 h8 h9 h10 h11 x1 hf0) [1, 0] rfl rfl 0 rfl rfl (by decide) rfl hl.1 rfl (Nat.le_of_ble_eq_true rfl) dX11_make_7 (Nat.le_of_ble_eq_true rfl) (Nat.le_of_ble_eq_true rfl)
set_option maxHeartbeats 4000000 in
set_option maxRecDepth 100000 in
theorem k510_X11_make (l : Launch) (G : va_G) (cy : Nat → ClassId) (hl0 : l.stackTraces = false) (h0 h1 h2 h3 h4 h5 h6 h7 h8 h9 h10 h11 : Nat) (x0 : Int32) (x1 : Int32) (n0 : Nat) (hlon0 : 0 ≤ n0) (hhin0 : n0 < 6) (hf0 : ¬ (x1 : Int32) < 0) (hf1 : ¬ (x1 : Int32) < 6) : zX l G cy yX11_make cX11_make 5 (some .int) 2 [.ref h0, .int x0, .int (nI n0), .int x1] [(h0, .inr (11, [.ref h2, .ref h3, .ref h4, .ref h5, .ref h6, .ref h7, .ref h8, .ref h9, .ref h10, .ref h11, .ref h1, .int (-1), .int (-1), .int (-1), .int (-1)])), (h1, .inl (cy 0, 3, .inl (kc 0)))] "java/util/NoSuchElementException" zNI := by
  refine zX.of (by decide) (Nat.le_of_ble_eq_true rfl) ?_
  intro p e s m args below meth c ls A hx hb hml hown hts hlk htab hl hK hE hA hT
  have hown : s.vm.findClass "CostBench" = some m.cls := hown
  have hl : lv_has ls 5 [(0, .ref h0), (1, .int x0), (2, .int (nI n0)), (3, .int x1)] := hl
  refine lv_aload_n (pc := 0) hx hb dX11_make_0 rfl (lv_at hl 0 rfl) ?_
  refine lv_iload_n (pc := 1) hx hb dX11_make_1 rfl (lv_at hl 2 rfl) ?_
  refine z_cVV (pc := 2) hx hb hml hown hts hK hA hT lkV_RX11_99 (k26_X11_checkSlot l G cy h0 h2 h3 h4 h5 h6 h7 h8 h9 h10 h11 h1 n0 (by omega) (by omega)) [0] [1] rfl rfl rfl rfl rfl 0 rfl rfl (by decide) rfl hl.1 rfl (Nat.le_of_ble_eq_true rfl) dX11_make_2 ⟨Nat.le_of_ble_eq_true rfl, Nat.le_of_ble_eq_true rfl⟩ (fun _ => [(h1, .inl (cy 0, 3, .inl (kc 0))), (h0, .inr (11, [.ref h2, .ref h3, .ref h4, .ref h5, .ref h6, .ref h7, .ref h8, .ref h9, .ref h10, .ref h11, .ref h1, .int (-1), .int (-1), .int (-1), .int (-1)]))]) (fun _ => rfl) (fun qs1 H locs hT => ?_)
  refine lv_aload_n (pc := 5) hx hb dX11_make_5 rfl (lv_at hl 0 rfl) ?_
  refine lv_iload_n (pc := 6) hx hb dX11_make_6 rfl (lv_at hl 3 rfl) ?_
  exact z_cVX (pc := 7) hx hb hml hown hts hlk htab hK hE hA hT lkV_RX11_99 (k507_X11_checkSlot l G cy hl0 h0 h1 h2 h3 h4 h5 h6 h7 h8 h9 h10 h11 x1 hf0 hf1) [1, 0] rfl rfl 0 rfl rfl (by decide) rfl hl.1 rfl (Nat.le_of_ble_eq_true rfl) dX11_make_7 (Nat.le_of_ble_eq_true rfl) (Nat.le_of_ble_eq_true rfl)
set_option maxHeartbeats 4000000 in
set_option maxRecDepth 100000 in
theorem k511_X11_checkValue (l : Launch) (G : va_G) (cy : Nat → ClassId) (hl0 : l.stackTraces = false) (h0 h1 h2 h3 h4 h5 h6 h7 h8 h9 h10 h11 : Nat) (x0 : Int32) (hf0 : (x0 : Int32) < 0) : zX l G cy yX11_checkValue cX11_checkValue 4 none 0 [.ref h0, .int x0, .int 0, .int 7] [(h0, .inr (11, [.ref h2, .ref h3, .ref h4, .ref h5, .ref h6, .ref h7, .ref h8, .ref h9, .ref h10, .ref h11, .ref h1, .int (-1), .int (-1), .int (-1), .int (-1)])), (h1, .inl (cy 0, 3, .inl (kc 0)))] "java/lang/IllegalArgumentException" zNV := by
  refine zX.of (by decide) (Nat.le_of_ble_eq_true rfl) ?_
  intro p e s m args below meth c ls A hx hb hml hown hts hlk htab hl hK hE hA hT
  have hown : s.vm.findClass "CostBench" = some m.cls := hown
  have hl : lv_has ls 4 [(0, .ref h0), (1, .int x0), (2, .int 0), (3, .int 7)] := hl
  refine lv_iload_n (pc := 0) hx hb dX11_checkValue_0 rfl (lv_at hl 1 rfl) ?_
  refine lv_iload_n (pc := 1) hx hb dX11_checkValue_1 rfl (lv_at hl 2 rfl) ?_
  refine zb_icmp_lt_t (pc := 2) (tgt := 10) hx hb dX11_checkValue_2 (by decide) hf0 ?_
  refine lv_aload_n (pc := 10) hx hb dX11_checkValue_10 rfl (lv_at hl 0 rfl) ?_
  refine z_get (pc := 11) hx hb hts hown hK hT 0 11 10 rfl rfl (by decide) rfl w3_19 rfl dX11_checkValue_11 ?_
  refine lv_iconst (pc := 14) (v := 1) hx hb dX11_checkValue_14 (by decide) ?_
  refine lv_dup2_11 (pc := 15) hx hb dX11_checkValue_15 rfl rfl ?_
  refine z_iald (pc := 16) (v := 0) hx hb hK hT 1 1 rfl rfl (by decide) (by decide) rfl dX11_checkValue_16 ?_
  refine lv_iconst (pc := 17) (v := 1) hx hb dX11_checkValue_17 (by decide) ?_
  refine z_iadd (pc := 18) (v := 1) hx hb dX11_checkValue_18 (by decide) ?_
  refine z_iast (pc := 19) hx hb hK hT 1 1 rfl rfl (by decide) (by decide) dX11_checkValue_19 (upd (kc 0) 1 1) (fun _ _ => rfl) [(h0, .inr (11, [.ref h2, .ref h3, .ref h4, .ref h5, .ref h6, .ref h7, .ref h8, .ref h9, .ref h10, .ref h11, .ref h1, .int (-1), .int (-1), .int (-1), .int (-1)])), (h1, .inl (cy 0, 3, .inl (upd (kc 0) 1 1)))] rfl (fun H locs hT => ?_)
  exact z_throwA (pc := 20) hl0 hx hb hml hown hts hlk htab hE hT hl.1 (Nat.le_of_ble_eq_true rfl) (Nat.le_of_ble_eq_true rfl) (Nat.le_of_ble_eq_true rfl) dX11_checkValue_20 dX11_checkValue_23 dX11_checkValue_24 dX11_checkValue_27 dX11_checkValue_30
set_option maxHeartbeats 4000000 in
set_option maxRecDepth 100000 in
theorem k512_X11_make (l : Launch) (G : va_G) (cy : Nat → ClassId) (hl0 : l.stackTraces = false) (h0 h1 h2 h3 h4 h5 h6 h7 h8 h9 h10 h11 : Nat) (x0 : Int32) (n0 : Nat) (n1 : Nat) (hlon0 : 0 ≤ n0) (hhin0 : n0 < 6) (hlon1 : 0 ≤ n1) (hhin1 : n1 < 6) (hf0 : (x0 : Int32) < 0) : zX l G cy yX11_make cX11_make 5 (some .int) 2 [.ref h0, .int x0, .int (nI n0), .int (nI n1)] [(h0, .inr (11, [.ref h2, .ref h3, .ref h4, .ref h5, .ref h6, .ref h7, .ref h8, .ref h9, .ref h10, .ref h11, .ref h1, .int (-1), .int (-1), .int (-1), .int (-1)])), (h1, .inl (cy 0, 3, .inl (kc 0)))] "java/lang/IllegalArgumentException" zNI := by
  refine zX.of (by decide) (Nat.le_of_ble_eq_true rfl) ?_
  intro p e s m args below meth c ls A hx hb hml hown hts hlk htab hl hK hE hA hT
  have hown : s.vm.findClass "CostBench" = some m.cls := hown
  have hl : lv_has ls 5 [(0, .ref h0), (1, .int x0), (2, .int (nI n0)), (3, .int (nI n1))] := hl
  refine lv_aload_n (pc := 0) hx hb dX11_make_0 rfl (lv_at hl 0 rfl) ?_
  refine lv_iload_n (pc := 1) hx hb dX11_make_1 rfl (lv_at hl 2 rfl) ?_
  refine z_cVV (pc := 2) hx hb hml hown hts hK hA hT lkV_RX11_99 (k26_X11_checkSlot l G cy h0 h2 h3 h4 h5 h6 h7 h8 h9 h10 h11 h1 n0 (by omega) (by omega)) [0] [1] rfl rfl rfl rfl rfl 0 rfl rfl (by decide) rfl hl.1 rfl (Nat.le_of_ble_eq_true rfl) dX11_make_2 ⟨Nat.le_of_ble_eq_true rfl, Nat.le_of_ble_eq_true rfl⟩ (fun _ => [(h1, .inl (cy 0, 3, .inl (kc 0))), (h0, .inr (11, [.ref h2, .ref h3, .ref h4, .ref h5, .ref h6, .ref h7, .ref h8, .ref h9, .ref h10, .ref h11, .ref h1, .int (-1), .int (-1), .int (-1), .int (-1)]))]) (fun _ => rfl) (fun qs1 H locs hT => ?_)
  refine lv_aload_n (pc := 5) hx hb dX11_make_5 rfl (lv_at hl 0 rfl) ?_
  refine lv_iload_n (pc := 6) hx hb dX11_make_6 rfl (lv_at hl 3 rfl) ?_
  refine z_cVV (pc := 7) hx hb hml hown hts hK hA hT lkV_RX11_99 (k26_X11_checkSlot l G cy h0 h2 h3 h4 h5 h6 h7 h8 h9 h10 h11 h1 n1 (by omega) (by omega)) [1] [0] rfl rfl rfl rfl rfl 0 rfl rfl (by decide) rfl hl.1 rfl (Nat.le_of_ble_eq_true rfl) dX11_make_7 ⟨Nat.le_of_ble_eq_true rfl, Nat.le_of_ble_eq_true rfl⟩ (fun _ => [(h1, .inl (cy 0, 3, .inl (kc 0))), (h0, .inr (11, [.ref h2, .ref h3, .ref h4, .ref h5, .ref h6, .ref h7, .ref h8, .ref h9, .ref h10, .ref h11, .ref h1, .int (-1), .int (-1), .int (-1), .int (-1)]))]) (fun _ => rfl) (fun qs2 H locs hT => ?_)
  refine lv_aload_n (pc := 10) hx hb dX11_make_10 rfl (lv_at hl 0 rfl) ?_
  refine lv_iload_n (pc := 11) hx hb dX11_make_11 rfl (lv_at hl 1 rfl) ?_
  refine lv_iconst (pc := 12) (v := 0) hx hb dX11_make_12 (by decide) ?_
  refine lv_bipush (pc := 13) (v := 7) hx hb dX11_make_13 (by decide) ?_
  exact z_cVX (pc := 15) hx hb hml hown hts hlk htab hK hE hA hT lkV_RX11_106 (k511_X11_checkValue l G cy hl0 h0 h1 h2 h3 h4 h5 h6 h7 h8 h9 h10 h11 x0 hf0) [1, 0] rfl rfl 0 rfl rfl (by decide) rfl hl.1 rfl (Nat.le_of_ble_eq_true rfl) dX11_make_15 (Nat.le_of_ble_eq_true rfl) (Nat.le_of_ble_eq_true rfl)
set_option maxHeartbeats 4000000 in
set_option maxRecDepth 100000 in
theorem k513_X11_checkValue (l : Launch) (G : va_G) (cy : Nat → ClassId) (hl0 : l.stackTraces = false) (h0 h1 h2 h3 h4 h5 h6 h7 h8 h9 h10 h11 : Nat) (x0 : Int32) (hf0 : ¬ (x0 : Int32) < 0) (hf1 : (7 : Int32) < x0) : zX l G cy yX11_checkValue cX11_checkValue 4 none 0 [.ref h0, .int x0, .int 0, .int 7] [(h0, .inr (11, [.ref h2, .ref h3, .ref h4, .ref h5, .ref h6, .ref h7, .ref h8, .ref h9, .ref h10, .ref h11, .ref h1, .int (-1), .int (-1), .int (-1), .int (-1)])), (h1, .inl (cy 0, 3, .inl (kc 0)))] "java/lang/IllegalArgumentException" zNV := by
  refine zX.of (by decide) (Nat.le_of_ble_eq_true rfl) ?_
  intro p e s m args below meth c ls A hx hb hml hown hts hlk htab hl hK hE hA hT
  have hown : s.vm.findClass "CostBench" = some m.cls := hown
  have hl : lv_has ls 4 [(0, .ref h0), (1, .int x0), (2, .int 0), (3, .int 7)] := hl
  refine lv_iload_n (pc := 0) hx hb dX11_checkValue_0 rfl (lv_at hl 1 rfl) ?_
  refine lv_iload_n (pc := 1) hx hb dX11_checkValue_1 rfl (lv_at hl 2 rfl) ?_
  refine zb_icmp_lt_f (pc := 2) (tgt := 10) hx hb dX11_checkValue_2 (by decide) hf0 ?_
  refine lv_iload_n (pc := 5) hx hb dX11_checkValue_5 rfl (lv_at hl 1 rfl) ?_
  refine lv_iload_n (pc := 6) hx hb dX11_checkValue_6 rfl (lv_at hl 3 rfl) ?_
  refine zb_icmp_le_f (pc := 7) (tgt := 31) hx hb dX11_checkValue_7 (by decide) (znle_of_lt hf1) ?_
  refine lv_aload_n (pc := 10) hx hb dX11_checkValue_10 rfl (lv_at hl 0 rfl) ?_
  refine z_get (pc := 11) hx hb hts hown hK hT 0 11 10 rfl rfl (by decide) rfl w3_19 rfl dX11_checkValue_11 ?_
  refine lv_iconst (pc := 14) (v := 1) hx hb dX11_checkValue_14 (by decide) ?_
  refine lv_dup2_11 (pc := 15) hx hb dX11_checkValue_15 rfl rfl ?_
  refine z_iald (pc := 16) (v := 0) hx hb hK hT 1 1 rfl rfl (by decide) (by decide) rfl dX11_checkValue_16 ?_
  refine lv_iconst (pc := 17) (v := 1) hx hb dX11_checkValue_17 (by decide) ?_
  refine z_iadd (pc := 18) (v := 1) hx hb dX11_checkValue_18 (by decide) ?_
  refine z_iast (pc := 19) hx hb hK hT 1 1 rfl rfl (by decide) (by decide) dX11_checkValue_19 (upd (kc 0) 1 1) (fun _ _ => rfl) [(h0, .inr (11, [.ref h2, .ref h3, .ref h4, .ref h5, .ref h6, .ref h7, .ref h8, .ref h9, .ref h10, .ref h11, .ref h1, .int (-1), .int (-1), .int (-1), .int (-1)])), (h1, .inl (cy 0, 3, .inl (upd (kc 0) 1 1)))] rfl (fun H locs hT => ?_)
  exact z_throwA (pc := 20) hl0 hx hb hml hown hts hlk htab hE hT hl.1 (Nat.le_of_ble_eq_true rfl) (Nat.le_of_ble_eq_true rfl) (Nat.le_of_ble_eq_true rfl) dX11_checkValue_20 dX11_checkValue_23 dX11_checkValue_24 dX11_checkValue_27 dX11_checkValue_30
set_option maxHeartbeats 4000000 in
set_option maxRecDepth 100000 in
theorem k514_X11_make (l : Launch) (G : va_G) (cy : Nat → ClassId) (hl0 : l.stackTraces = false) (h0 h1 h2 h3 h4 h5 h6 h7 h8 h9 h10 h11 : Nat) (x0 : Int32) (n0 : Nat) (n1 : Nat) (hlon0 : 0 ≤ n0) (hhin0 : n0 < 6) (hlon1 : 0 ≤ n1) (hhin1 : n1 < 6) (hf0 : ¬ (x0 : Int32) < 0) (hf1 : (7 : Int32) < x0) : zX l G cy yX11_make cX11_make 5 (some .int) 2 [.ref h0, .int x0, .int (nI n0), .int (nI n1)] [(h0, .inr (11, [.ref h2, .ref h3, .ref h4, .ref h5, .ref h6, .ref h7, .ref h8, .ref h9, .ref h10, .ref h11, .ref h1, .int (-1), .int (-1), .int (-1), .int (-1)])), (h1, .inl (cy 0, 3, .inl (kc 0)))] "java/lang/IllegalArgumentException" zNI := by
  refine zX.of (by decide) (Nat.le_of_ble_eq_true rfl) ?_
  intro p e s m args below meth c ls A hx hb hml hown hts hlk htab hl hK hE hA hT
  have hown : s.vm.findClass "CostBench" = some m.cls := hown
  have hl : lv_has ls 5 [(0, .ref h0), (1, .int x0), (2, .int (nI n0)), (3, .int (nI n1))] := hl
  refine lv_aload_n (pc := 0) hx hb dX11_make_0 rfl (lv_at hl 0 rfl) ?_
  refine lv_iload_n (pc := 1) hx hb dX11_make_1 rfl (lv_at hl 2 rfl) ?_
  refine z_cVV (pc := 2) hx hb hml hown hts hK hA hT lkV_RX11_99 (k26_X11_checkSlot l G cy h0 h2 h3 h4 h5 h6 h7 h8 h9 h10 h11 h1 n0 (by omega) (by omega)) [0] [1] rfl rfl rfl rfl rfl 0 rfl rfl (by decide) rfl hl.1 rfl (Nat.le_of_ble_eq_true rfl) dX11_make_2 ⟨Nat.le_of_ble_eq_true rfl, Nat.le_of_ble_eq_true rfl⟩ (fun _ => [(h1, .inl (cy 0, 3, .inl (kc 0))), (h0, .inr (11, [.ref h2, .ref h3, .ref h4, .ref h5, .ref h6, .ref h7, .ref h8, .ref h9, .ref h10, .ref h11, .ref h1, .int (-1), .int (-1), .int (-1), .int (-1)]))]) (fun _ => rfl) (fun qs1 H locs hT => ?_)
  refine lv_aload_n (pc := 5) hx hb dX11_make_5 rfl (lv_at hl 0 rfl) ?_
  refine lv_iload_n (pc := 6) hx hb dX11_make_6 rfl (lv_at hl 3 rfl) ?_
  refine z_cVV (pc := 7) hx hb hml hown hts hK hA hT lkV_RX11_99 (k26_X11_checkSlot l G cy h0 h2 h3 h4 h5 h6 h7 h8 h9 h10 h11 h1 n1 (by omega) (by omega)) [1] [0] rfl rfl rfl rfl rfl 0 rfl rfl (by decide) rfl hl.1 rfl (Nat.le_of_ble_eq_true rfl) dX11_make_7 ⟨Nat.le_of_ble_eq_true rfl, Nat.le_of_ble_eq_true rfl⟩ (fun _ => [(h1, .inl (cy 0, 3, .inl (kc 0))), (h0, .inr (11, [.ref h2, .ref h3, .ref h4, .ref h5, .ref h6, .ref h7, .ref h8, .ref h9, .ref h10, .ref h11, .ref h1, .int (-1), .int (-1), .int (-1), .int (-1)]))]) (fun _ => rfl) (fun qs2 H locs hT => ?_)
  refine lv_aload_n (pc := 10) hx hb dX11_make_10 rfl (lv_at hl 0 rfl) ?_
  refine lv_iload_n (pc := 11) hx hb dX11_make_11 rfl (lv_at hl 1 rfl) ?_
  refine lv_iconst (pc := 12) (v := 0) hx hb dX11_make_12 (by decide) ?_
  refine lv_bipush (pc := 13) (v := 7) hx hb dX11_make_13 (by decide) ?_
  exact z_cVX (pc := 15) hx hb hml hown hts hlk htab hK hE hA hT lkV_RX11_106 (k513_X11_checkValue l G cy hl0 h0 h1 h2 h3 h4 h5 h6 h7 h8 h9 h10 h11 x0 hf0 hf1) [1, 0] rfl rfl 0 rfl rfl (by decide) rfl hl.1 rfl (Nat.le_of_ble_eq_true rfl) dX11_make_15 (Nat.le_of_ble_eq_true rfl) (Nat.le_of_ble_eq_true rfl)
set_option maxHeartbeats 4000000 in
set_option maxRecDepth 100000 in
theorem k515_X11_join (l : Launch) (G : va_G) (cy : Nat → ClassId) (hl0 : l.stackTraces = false) (h0 h1 h2 h3 h4 h5 h6 h7 h8 h9 h10 h11 : Nat) (x0 : Int32) (x1 : Int32) (x2 : Int32) (x3 : Int32) (hf0 : (x1 : Int32) < 0) : zX l G cy yX11_join cX11_join 5 (some .int) 2 [.ref h0, .int x0, .int x1, .int x2, .int x3] [(h0, .inr (11, [.ref h2, .ref h3, .ref h4, .ref h5, .ref h6, .ref h7, .ref h8, .ref h9, .ref h10, .ref h11, .ref h1, .int (-1), .int (-1), .int (-1), .int (-1)])), (h1, .inl (cy 0, 3, .inl (kc 0)))] "java/util/NoSuchElementException" zNI := by
  refine zX.of (by decide) (Nat.le_of_ble_eq_true rfl) ?_
  intro p e s m args below meth c ls A hx hb hml hown hts hlk htab hl hK hE hA hT
  have hown : s.vm.findClass "CostBench" = some m.cls := hown
  have hl : lv_has ls 5 [(0, .ref h0), (1, .int x0), (2, .int x1), (3, .int x2), (4, .int x3)] := hl
  refine lv_aload_n (pc := 0) hx hb dX11_join_0 rfl (lv_at hl 0 rfl) ?_
  refine lv_iload_n (pc := 1) hx hb dX11_join_1 rfl (lv_at hl 2 rfl) ?_
  exact z_cVX (pc := 2) hx hb hml hown hts hlk htab hK hE hA hT lkV_RX11_99 (k504_X11_checkSlot l G cy hl0 h0 h1 h2 h3 h4 h5 h6 h7 h8 h9 h10 h11 x1 hf0) [0, 1] rfl rfl 0 rfl rfl (by decide) rfl hl.1 rfl (Nat.le_of_ble_eq_true rfl) dX11_join_2 (Nat.le_of_ble_eq_true rfl) (Nat.le_of_ble_eq_true rfl)
set_option maxHeartbeats 4000000 in
set_option maxRecDepth 100000 in
theorem k516_X11_join (l : Launch) (G : va_G) (cy : Nat → ClassId) (hl0 : l.stackTraces = false) (h0 h1 h2 h3 h4 h5 h6 h7 h8 h9 h10 h11 : Nat) (x0 : Int32) (x1 : Int32) (x2 : Int32) (x3 : Int32) (hf0 : ¬ (x1 : Int32) < 0) (hf1 : ¬ (x1 : Int32) < 6) : zX l G cy yX11_join cX11_join 5 (some .int) 2 [.ref h0, .int x0, .int x1, .int x2, .int x3] [(h0, .inr (11, [.ref h2, .ref h3, .ref h4, .ref h5, .ref h6, .ref h7, .ref h8, .ref h9, .ref h10, .ref h11, .ref h1, .int (-1), .int (-1), .int (-1), .int (-1)])), (h1, .inl (cy 0, 3, .inl (kc 0)))] "java/util/NoSuchElementException" zNI := by
  refine zX.of (by decide) (Nat.le_of_ble_eq_true rfl) ?_
  intro p e s m args below meth c ls A hx hb hml hown hts hlk htab hl hK hE hA hT
  have hown : s.vm.findClass "CostBench" = some m.cls := hown
  have hl : lv_has ls 5 [(0, .ref h0), (1, .int x0), (2, .int x1), (3, .int x2), (4, .int x3)] := hl
  refine lv_aload_n (pc := 0) hx hb dX11_join_0 rfl (lv_at hl 0 rfl) ?_
  refine lv_iload_n (pc := 1) hx hb dX11_join_1 rfl (lv_at hl 2 rfl) ?_
  exact z_cVX (pc := 2) hx hb hml hown hts hlk htab hK hE hA hT lkV_RX11_99 (k507_X11_checkSlot l G cy hl0 h0 h1 h2 h3 h4 h5 h6 h7 h8 h9 h10 h11 x1 hf0 hf1) [0, 1] rfl rfl 0 rfl rfl (by decide) rfl hl.1 rfl (Nat.le_of_ble_eq_true rfl) dX11_join_2 (Nat.le_of_ble_eq_true rfl) (Nat.le_of_ble_eq_true rfl)
set_option maxHeartbeats 4000000 in
set_option maxRecDepth 100000 in
theorem k517_X11_join (l : Launch) (G : va_G) (cy : Nat → ClassId) (hl0 : l.stackTraces = false) (h0 h1 h2 h3 h4 h5 h6 h7 h8 h9 h10 h11 : Nat) (x0 : Int32) (x1 : Int32) (x2 : Int32) (n0 : Nat) (hlon0 : 0 ≤ n0) (hhin0 : n0 < 6) (hf0 : (x1 : Int32) < 0) : zX l G cy yX11_join cX11_join 5 (some .int) 2 [.ref h0, .int x0, .int (nI n0), .int x1, .int x2] [(h0, .inr (11, [.ref h2, .ref h3, .ref h4, .ref h5, .ref h6, .ref h7, .ref h8, .ref h9, .ref h10, .ref h11, .ref h1, .int (-1), .int (-1), .int (-1), .int (-1)])), (h1, .inl (cy 0, 3, .inl (kc 0)))] "java/util/NoSuchElementException" zNI := by
  refine zX.of (by decide) (Nat.le_of_ble_eq_true rfl) ?_
  intro p e s m args below meth c ls A hx hb hml hown hts hlk htab hl hK hE hA hT
  have hown : s.vm.findClass "CostBench" = some m.cls := hown
  have hl : lv_has ls 5 [(0, .ref h0), (1, .int x0), (2, .int (nI n0)), (3, .int x1), (4, .int x2)] := hl
  refine lv_aload_n (pc := 0) hx hb dX11_join_0 rfl (lv_at hl 0 rfl) ?_
  refine lv_iload_n (pc := 1) hx hb dX11_join_1 rfl (lv_at hl 2 rfl) ?_
  refine z_cVV (pc := 2) hx hb hml hown hts hK hA hT lkV_RX11_99 (k26_X11_checkSlot l G cy h0 h2 h3 h4 h5 h6 h7 h8 h9 h10 h11 h1 n0 (by omega) (by omega)) [0] [1] rfl rfl rfl rfl rfl 0 rfl rfl (by decide) rfl hl.1 rfl (Nat.le_of_ble_eq_true rfl) dX11_join_2 ⟨Nat.le_of_ble_eq_true rfl, Nat.le_of_ble_eq_true rfl⟩ (fun _ => [(h1, .inl (cy 0, 3, .inl (kc 0))), (h0, .inr (11, [.ref h2, .ref h3, .ref h4, .ref h5, .ref h6, .ref h7, .ref h8, .ref h9, .ref h10, .ref h11, .ref h1, .int (-1), .int (-1), .int (-1), .int (-1)]))]) (fun _ => rfl) (fun qs1 H locs hT => ?_)
  refine lv_aload_n (pc := 5) hx hb dX11_join_5 rfl (lv_at hl 0 rfl) ?_
  refine lv_iload_n (pc := 6) hx hb dX11_join_6 rfl (lv_at hl 3 rfl) ?_
  exact z_cVX (pc := 7) hx hb hml hown hts hlk htab hK hE hA hT lkV_RX11_99 (k504_X11_checkSlot l G cy hl0 h0 h1 h2 h3 h4 h5 h6 h7 h8 h9 h10 h11 x1 hf0) [1, 0] rfl rfl 0 rfl rfl (by decide) rfl hl.1 rfl (Nat.le_of_ble_eq_true rfl) dX11_join_7 (Nat.le_of_ble_eq_true rfl) (Nat.le_of_ble_eq_true rfl)
set_option maxHeartbeats 4000000 in
set_option maxRecDepth 100000 in
theorem k518_X11_join (l : Launch) (G : va_G) (cy : Nat → ClassId) (hl0 : l.stackTraces = false) (h0 h1 h2 h3 h4 h5 h6 h7 h8 h9 h10 h11 : Nat) (x0 : Int32) (x1 : Int32) (x2 : Int32) (n0 : Nat) (hlon0 : 0 ≤ n0) (hhin0 : n0 < 6) (hf0 : ¬ (x1 : Int32) < 0) (hf1 : ¬ (x1 : Int32) < 6) : zX l G cy yX11_join cX11_join 5 (some .int) 2 [.ref h0, .int x0, .int (nI n0), .int x1, .int x2] [(h0, .inr (11, [.ref h2, .ref h3, .ref h4, .ref h5, .ref h6, .ref h7, .ref h8, .ref h9, .ref h10, .ref h11, .ref h1, .int (-1), .int (-1), .int (-1), .int (-1)])), (h1, .inl (cy 0, 3, .inl (kc 0)))] "java/util/NoSuchElementException" zNI := by
  refine zX.of (by decide) (Nat.le_of_ble_eq_true rfl) ?_
  intro p e s m args below meth c ls A hx hb hml hown hts hlk htab hl hK hE hA hT
  have hown : s.vm.findClass "CostBench" = some m.cls := hown
  have hl : lv_has ls 5 [(0, .ref h0), (1, .int x0), (2, .int (nI n0)), (3, .int x1), (4, .int x2)] := hl
  refine lv_aload_n (pc := 0) hx hb dX11_join_0 rfl (lv_at hl 0 rfl) ?_
  refine lv_iload_n (pc := 1) hx hb dX11_join_1 rfl (lv_at hl 2 rfl) ?_
  refine z_cVV (pc := 2) hx hb hml hown hts hK hA hT lkV_RX11_99 (k26_X11_checkSlot l G cy h0 h2 h3 h4 h5 h6 h7 h8 h9 h10 h11 h1 n0 (by omega) (by omega)) [0] [1] rfl rfl rfl rfl rfl 0 rfl rfl (by decide) rfl hl.1 rfl (Nat.le_of_ble_eq_true rfl) dX11_join_2 ⟨Nat.le_of_ble_eq_true rfl, Nat.le_of_ble_eq_true rfl⟩ (fun _ => [(h1, .inl (cy 0, 3, .inl (kc 0))), (h0, .inr (11, [.ref h2, .ref h3, .ref h4, .ref h5, .ref h6, .ref h7, .ref h8, .ref h9, .ref h10, .ref h11, .ref h1, .int (-1), .int (-1), .int (-1), .int (-1)]))]) (fun _ => rfl) (fun qs1 H locs hT => ?_)
  refine lv_aload_n (pc := 5) hx hb dX11_join_5 rfl (lv_at hl 0 rfl) ?_
  refine lv_iload_n (pc := 6) hx hb dX11_join_6 rfl (lv_at hl 3 rfl) ?_
  exact z_cVX (pc := 7) hx hb hml hown hts hlk htab hK hE hA hT lkV_RX11_99 (k507_X11_checkSlot l G cy hl0 h0 h1 h2 h3 h4 h5 h6 h7 h8 h9 h10 h11 x1 hf0 hf1) [1, 0] rfl rfl 0 rfl rfl (by decide) rfl hl.1 rfl (Nat.le_of_ble_eq_true rfl) dX11_join_7 (Nat.le_of_ble_eq_true rfl) (Nat.le_of_ble_eq_true rfl)
set_option maxHeartbeats 4000000 in
set_option maxRecDepth 100000 in
theorem k519_X11_join (l : Launch) (G : va_G) (cy : Nat → ClassId) (hl0 : l.stackTraces = false) (h0 h1 h2 h3 h4 h5 h6 h7 h8 h9 h10 h11 : Nat) (x0 : Int32) (x1 : Int32) (n0 : Nat) (n1 : Nat) (hlon0 : 0 ≤ n0) (hhin0 : n0 < 6) (hlon1 : 0 ≤ n1) (hhin1 : n1 < 6) (hf0 : (x1 : Int32) < 0) : zX l G cy yX11_join cX11_join 5 (some .int) 2 [.ref h0, .int x0, .int (nI n0), .int (nI n1), .int x1] [(h0, .inr (11, [.ref h2, .ref h3, .ref h4, .ref h5, .ref h6, .ref h7, .ref h8, .ref h9, .ref h10, .ref h11, .ref h1, .int (-1), .int (-1), .int (-1), .int (-1)])), (h1, .inl (cy 0, 3, .inl (kc 0)))] "java/util/NoSuchElementException" zNI := by
  refine zX.of (by decide) (Nat.le_of_ble_eq_true rfl) ?_
  intro p e s m args below meth c ls A hx hb hml hown hts hlk htab hl hK hE hA hT
  have hown : s.vm.findClass "CostBench" = some m.cls := hown
  have hl : lv_has ls 5 [(0, .ref h0), (1, .int x0), (2, .int (nI n0)), (3, .int (nI n1)), (4, .int x1)] := hl
  refine lv_aload_n (pc := 0) hx hb dX11_join_0 rfl (lv_at hl 0 rfl) ?_
  refine lv_iload_n (pc := 1) hx hb dX11_join_1 rfl (lv_at hl 2 rfl) ?_
  refine z_cVV (pc := 2) hx hb hml hown hts hK hA hT lkV_RX11_99 (k26_X11_checkSlot l G cy h0 h2 h3 h4 h5 h6 h7 h8 h9 h10 h11 h1 n0 (by omega) (by omega)) [0] [1] rfl rfl rfl rfl rfl 0 rfl rfl (by decide) rfl hl.1 rfl (Nat.le_of_ble_eq_true rfl) dX11_join_2 ⟨Nat.le_of_ble_eq_true rfl, Nat.le_of_ble_eq_true rfl⟩ (fun _ => [(h1, .inl (cy 0, 3, .inl (kc 0))), (h0, .inr (11, [.ref h2, .ref h3, .ref h4, .ref h5, .ref h6, .ref h7, .ref h8, .ref h9, .ref h10, .ref h11, .ref h1, .int (-1), .int (-1), .int (-1), .int (-1)]))]) (fun _ => rfl) (fun qs1 H locs hT => ?_)
  refine lv_aload_n (pc := 5) hx hb dX11_join_5 rfl (lv_at hl 0 rfl) ?_
  refine lv_iload_n (pc := 6) hx hb dX11_join_6 rfl (lv_at hl 3 rfl) ?_
  refine z_cVV (pc := 7) hx hb hml hown hts hK hA hT lkV_RX11_99 (k26_X11_checkSlot l G cy h0 h2 h3 h4 h5 h6 h7 h8 h9 h10 h11 h1 n1 (by omega) (by omega)) [1] [0] rfl rfl rfl rfl rfl 0 rfl rfl (by decide) rfl hl.1 rfl (Nat.le_of_ble_eq_true rfl) dX11_join_7 ⟨Nat.le_of_ble_eq_true rfl, Nat.le_of_ble_eq_true rfl⟩ (fun _ => [(h1, .inl (cy 0, 3, .inl (kc 0))), (h0, .inr (11, [.ref h2, .ref h3, .ref h4, .ref h5, .ref h6, .ref h7, .ref h8, .ref h9, .ref h10, .ref h11, .ref h1, .int (-1), .int (-1), .int (-1), .int (-1)]))]) (fun _ => rfl) (fun qs2 H locs hT => ?_)
  refine lv_aload_n (pc := 10) hx hb dX11_join_10 rfl (lv_at hl 0 rfl) ?_
  refine lv_iload (pc := 11) hx hb dX11_join_11 (lv_at hl 4 rfl) ?_
  exact z_cVX (pc := 13) hx hb hml hown hts hlk htab hK hE hA hT lkV_RX11_99 (k504_X11_checkSlot l G cy hl0 h0 h1 h2 h3 h4 h5 h6 h7 h8 h9 h10 h11 x1 hf0) [1, 0] rfl rfl 0 rfl rfl (by decide) rfl hl.1 rfl (Nat.le_of_ble_eq_true rfl) dX11_join_13 (Nat.le_of_ble_eq_true rfl) (Nat.le_of_ble_eq_true rfl)
set_option maxHeartbeats 4000000 in
set_option maxRecDepth 100000 in
theorem k520_X11_join (l : Launch) (G : va_G) (cy : Nat → ClassId) (hl0 : l.stackTraces = false) (h0 h1 h2 h3 h4 h5 h6 h7 h8 h9 h10 h11 : Nat) (x0 : Int32) (x1 : Int32) (n0 : Nat) (n1 : Nat) (hlon0 : 0 ≤ n0) (hhin0 : n0 < 6) (hlon1 : 0 ≤ n1) (hhin1 : n1 < 6) (hf0 : ¬ (x1 : Int32) < 0) (hf1 : ¬ (x1 : Int32) < 6) : zX l G cy yX11_join cX11_join 5 (some .int) 2 [.ref h0, .int x0, .int (nI n0), .int (nI n1), .int x1] [(h0, .inr (11, [.ref h2, .ref h3, .ref h4, .ref h5, .ref h6, .ref h7, .ref h8, .ref h9, .ref h10, .ref h11, .ref h1, .int (-1), .int (-1), .int (-1), .int (-1)])), (h1, .inl (cy 0, 3, .inl (kc 0)))] "java/util/NoSuchElementException" zNI := by
  refine zX.of (by decide) (Nat.le_of_ble_eq_true rfl) ?_
  intro p e s m args below meth c ls A hx hb hml hown hts hlk htab hl hK hE hA hT
  have hown : s.vm.findClass "CostBench" = some m.cls := hown
  have hl : lv_has ls 5 [(0, .ref h0), (1, .int x0), (2, .int (nI n0)), (3, .int (nI n1)), (4, .int x1)] := hl
  refine lv_aload_n (pc := 0) hx hb dX11_join_0 rfl (lv_at hl 0 rfl) ?_
  refine lv_iload_n (pc := 1) hx hb dX11_join_1 rfl (lv_at hl 2 rfl) ?_
  refine z_cVV (pc := 2) hx hb hml hown hts hK hA hT lkV_RX11_99 (k26_X11_checkSlot l G cy h0 h2 h3 h4 h5 h6 h7 h8 h9 h10 h11 h1 n0 (by omega) (by omega)) [0] [1] rfl rfl rfl rfl rfl 0 rfl rfl (by decide) rfl hl.1 rfl (Nat.le_of_ble_eq_true rfl) dX11_join_2 ⟨Nat.le_of_ble_eq_true rfl, Nat.le_of_ble_eq_true rfl⟩ (fun _ => [(h1, .inl (cy 0, 3, .inl (kc 0))), (h0, .inr (11, [.ref h2, .ref h3, .ref h4, .ref h5, .ref h6, .ref h7, .ref h8, .ref h9, .ref h10, .ref h11, .ref h1, .int (-1), .int (-1), .int (-1), .int (-1)]))]) (fun _ => rfl) (fun qs1 H locs hT => ?_)
  refine lv_aload_n (pc := 5) hx hb dX11_join_5 rfl (lv_at hl 0 rfl) ?_
  refine lv_iload_n (pc := 6) hx hb dX11_join_6 rfl (lv_at hl 3 rfl) ?_
  refine z_cVV (pc := 7) hx hb hml hown hts hK hA hT lkV_RX11_99 (k26_X11_checkSlot l G cy h0 h2 h3 h4 h5 h6 h7 h8 h9 h10 h11 h1 n1 (by omega) (by omega)) [1] [0] rfl rfl rfl rfl rfl 0 rfl rfl (by decide) rfl hl.1 rfl (Nat.le_of_ble_eq_true rfl) dX11_join_7 ⟨Nat.le_of_ble_eq_true rfl, Nat.le_of_ble_eq_true rfl⟩ (fun _ => [(h1, .inl (cy 0, 3, .inl (kc 0))), (h0, .inr (11, [.ref h2, .ref h3, .ref h4, .ref h5, .ref h6, .ref h7, .ref h8, .ref h9, .ref h10, .ref h11, .ref h1, .int (-1), .int (-1), .int (-1), .int (-1)]))]) (fun _ => rfl) (fun qs2 H locs hT => ?_)
  refine lv_aload_n (pc := 10) hx hb dX11_join_10 rfl (lv_at hl 0 rfl) ?_
  refine lv_iload (pc := 11) hx hb dX11_join_11 (lv_at hl 4 rfl) ?_
  exact z_cVX (pc := 13) hx hb hml hown hts hlk htab hK hE hA hT lkV_RX11_99 (k507_X11_checkSlot l G cy hl0 h0 h1 h2 h3 h4 h5 h6 h7 h8 h9 h10 h11 x1 hf0 hf1) [1, 0] rfl rfl 0 rfl rfl (by decide) rfl hl.1 rfl (Nat.le_of_ble_eq_true rfl) dX11_join_13 (Nat.le_of_ble_eq_true rfl) (Nat.le_of_ble_eq_true rfl)
set_option maxHeartbeats 4000000 in
set_option maxRecDepth 100000 in
theorem k521_X11_checkValue (l : Launch) (G : va_G) (cy : Nat → ClassId) (hl0 : l.stackTraces = false) (h0 h1 h2 h3 h4 h5 h6 h7 h8 h9 h10 h11 : Nat) (x0 : Int32) (hf0 : (x0 : Int32) < 8) : zX l G cy yX11_checkValue cX11_checkValue 4 none 0 [.ref h0, .int x0, .int 8, .int 10] [(h0, .inr (11, [.ref h2, .ref h3, .ref h4, .ref h5, .ref h6, .ref h7, .ref h8, .ref h9, .ref h10, .ref h11, .ref h1, .int (-1), .int (-1), .int (-1), .int (-1)])), (h1, .inl (cy 0, 3, .inl (kc 0)))] "java/lang/IllegalArgumentException" zNV := by
  refine zX.of (by decide) (Nat.le_of_ble_eq_true rfl) ?_
  intro p e s m args below meth c ls A hx hb hml hown hts hlk htab hl hK hE hA hT
  have hown : s.vm.findClass "CostBench" = some m.cls := hown
  have hl : lv_has ls 4 [(0, .ref h0), (1, .int x0), (2, .int 8), (3, .int 10)] := hl
  refine lv_iload_n (pc := 0) hx hb dX11_checkValue_0 rfl (lv_at hl 1 rfl) ?_
  refine lv_iload_n (pc := 1) hx hb dX11_checkValue_1 rfl (lv_at hl 2 rfl) ?_
  refine zb_icmp_lt_t (pc := 2) (tgt := 10) hx hb dX11_checkValue_2 (by decide) hf0 ?_
  refine lv_aload_n (pc := 10) hx hb dX11_checkValue_10 rfl (lv_at hl 0 rfl) ?_
  refine z_get (pc := 11) hx hb hts hown hK hT 0 11 10 rfl rfl (by decide) rfl w3_19 rfl dX11_checkValue_11 ?_
  refine lv_iconst (pc := 14) (v := 1) hx hb dX11_checkValue_14 (by decide) ?_
  refine lv_dup2_11 (pc := 15) hx hb dX11_checkValue_15 rfl rfl ?_
  refine z_iald (pc := 16) (v := 0) hx hb hK hT 1 1 rfl rfl (by decide) (by decide) rfl dX11_checkValue_16 ?_
  refine lv_iconst (pc := 17) (v := 1) hx hb dX11_checkValue_17 (by decide) ?_
  refine z_iadd (pc := 18) (v := 1) hx hb dX11_checkValue_18 (by decide) ?_
  refine z_iast (pc := 19) hx hb hK hT 1 1 rfl rfl (by decide) (by decide) dX11_checkValue_19 (upd (kc 0) 1 1) (fun _ _ => rfl) [(h0, .inr (11, [.ref h2, .ref h3, .ref h4, .ref h5, .ref h6, .ref h7, .ref h8, .ref h9, .ref h10, .ref h11, .ref h1, .int (-1), .int (-1), .int (-1), .int (-1)])), (h1, .inl (cy 0, 3, .inl (upd (kc 0) 1 1)))] rfl (fun H locs hT => ?_)
  exact z_throwA (pc := 20) hl0 hx hb hml hown hts hlk htab hE hT hl.1 (Nat.le_of_ble_eq_true rfl) (Nat.le_of_ble_eq_true rfl) (Nat.le_of_ble_eq_true rfl) dX11_checkValue_20 dX11_checkValue_23 dX11_checkValue_24 dX11_checkValue_27 dX11_checkValue_30
set_option maxHeartbeats 4000000 in
set_option maxRecDepth 100000 in
theorem k522_X11_join (l : Launch) (G : va_G) (cy : Nat → ClassId) (hl0 : l.stackTraces = false) (h0 h1 h2 h3 h4 h5 h6 h7 h8 h9 h10 h11 : Nat) (x0 : Int32) (n0 : Nat) (n1 : Nat) (n2 : Nat) (hlon0 : 0 ≤ n0) (hhin0 : n0 < 6) (hlon1 : 0 ≤ n1) (hhin1 : n1 < 6) (hlon2 : 0 ≤ n2) (hhin2 : n2 < 6) (hf0 : (x0 : Int32) < 8) : zX l G cy yX11_join cX11_join 5 (some .int) 2 [.ref h0, .int x0, .int (nI n0), .int (nI n1), .int (nI n2)] [(h0, .inr (11, [.ref h2, .ref h3, .ref h4, .ref h5, .ref h6, .ref h7, .ref h8, .ref h9, .ref h10, .ref h11, .ref h1, .int (-1), .int (-1), .int (-1), .int (-1)])), (h1, .inl (cy 0, 3, .inl (kc 0)))] "java/lang/IllegalArgumentException" zNI := by
  refine zX.of (by decide) (Nat.le_of_ble_eq_true rfl) ?_
  intro p e s m args below meth c ls A hx hb hml hown hts hlk htab hl hK hE hA hT
  have hown : s.vm.findClass "CostBench" = some m.cls := hown
  have hl : lv_has ls 5 [(0, .ref h0), (1, .int x0), (2, .int (nI n0)), (3, .int (nI n1)), (4, .int (nI n2))] := hl
  refine lv_aload_n (pc := 0) hx hb dX11_join_0 rfl (lv_at hl 0 rfl) ?_
  refine lv_iload_n (pc := 1) hx hb dX11_join_1 rfl (lv_at hl 2 rfl) ?_
  refine z_cVV (pc := 2) hx hb hml hown hts hK hA hT lkV_RX11_99 (k26_X11_checkSlot l G cy h0 h2 h3 h4 h5 h6 h7 h8 h9 h10 h11 h1 n0 (by omega) (by omega)) [0] [1] rfl rfl rfl rfl rfl 0 rfl rfl (by decide) rfl hl.1 rfl (Nat.le_of_ble_eq_true rfl) dX11_join_2 ⟨Nat.le_of_ble_eq_true rfl, Nat.le_of_ble_eq_true rfl⟩ (fun _ => [(h1, .inl (cy 0, 3, .inl (kc 0))), (h0, .inr (11, [.ref h2, .ref h3, .ref h4, .ref h5, .ref h6, .ref h7, .ref h8, .ref h9, .ref h10, .ref h11, .ref h1, .int (-1), .int (-1), .int (-1), .int (-1)]))]) (fun _ => rfl) (fun qs1 H locs hT => ?_)
  refine lv_aload_n (pc := 5) hx hb dX11_join_5 rfl (lv_at hl 0 rfl) ?_
  refine lv_iload_n (pc := 6) hx hb dX11_join_6 rfl (lv_at hl 3 rfl) ?_
  refine z_cVV (pc := 7) hx hb hml hown hts hK hA hT lkV_RX11_99 (k26_X11_checkSlot l G cy h0 h2 h3 h4 h5 h6 h7 h8 h9 h10 h11 h1 n1 (by omega) (by omega)) [1] [0] rfl rfl rfl rfl rfl 0 rfl rfl (by decide) rfl hl.1 rfl (Nat.le_of_ble_eq_true rfl) dX11_join_7 ⟨Nat.le_of_ble_eq_true rfl, Nat.le_of_ble_eq_true rfl⟩ (fun _ => [(h1, .inl (cy 0, 3, .inl (kc 0))), (h0, .inr (11, [.ref h2, .ref h3, .ref h4, .ref h5, .ref h6, .ref h7, .ref h8, .ref h9, .ref h10, .ref h11, .ref h1, .int (-1), .int (-1), .int (-1), .int (-1)]))]) (fun _ => rfl) (fun qs2 H locs hT => ?_)
  refine lv_aload_n (pc := 10) hx hb dX11_join_10 rfl (lv_at hl 0 rfl) ?_
  refine lv_iload (pc := 11) hx hb dX11_join_11 (lv_at hl 4 rfl) ?_
  refine z_cVV (pc := 13) hx hb hml hown hts hK hA hT lkV_RX11_99 (k26_X11_checkSlot l G cy h0 h2 h3 h4 h5 h6 h7 h8 h9 h10 h11 h1 n2 (by omega) (by omega)) [1] [0] rfl rfl rfl rfl rfl 0 rfl rfl (by decide) rfl hl.1 rfl (Nat.le_of_ble_eq_true rfl) dX11_join_13 ⟨Nat.le_of_ble_eq_true rfl, Nat.le_of_ble_eq_true rfl⟩ (fun _ => [(h1, .inl (cy 0, 3, .inl (kc 0))), (h0, .inr (11, [.ref h2, .ref h3, .ref h4, .ref h5, .ref h6, .ref h7, .ref h8, .ref h9, .ref h10, .ref h11, .ref h1, .int (-1), .int (-1), .int (-1), .int (-1)]))]) (fun _ => rfl) (fun qs3 H locs hT => ?_)
  refine lv_aload_n (pc := 16) hx hb dX11_join_16 rfl (lv_at hl 0 rfl) ?_
  refine lv_iload_n (pc := 17) hx hb dX11_join_17 rfl (lv_at hl 1 rfl) ?_
  refine lv_bipush (pc := 18) (v := 8) hx hb dX11_join_18 (by decide) ?_
  refine lv_bipush (pc := 20) (v := 10) hx hb dX11_join_20 (by decide) ?_
  exact z_cVX (pc := 22) hx hb hml hown hts hlk htab hK hE hA hT lkV_RX11_106 (k521_X11_checkValue l G cy hl0 h0 h1 h2 h3 h4 h5 h6 h7 h8 h9 h10 h11 x0 hf0) [1, 0] rfl rfl 0 rfl rfl (by decide) rfl hl.1 rfl (Nat.le_of_ble_eq_true rfl) dX11_join_22 (Nat.le_of_ble_eq_true rfl) (Nat.le_of_ble_eq_true rfl)
set_option maxHeartbeats 4000000 in
set_option maxRecDepth 100000 in
theorem k523_X11_checkValue (l : Launch) (G : va_G) (cy : Nat → ClassId) (hl0 : l.stackTraces = false) (h0 h1 h2 h3 h4 h5 h6 h7 h8 h9 h10 h11 : Nat) (x0 : Int32) (hf0 : ¬ (x0 : Int32) < 8) (hf1 : (10 : Int32) < x0) : zX l G cy yX11_checkValue cX11_checkValue 4 none 0 [.ref h0, .int x0, .int 8, .int 10] [(h0, .inr (11, [.ref h2, .ref h3, .ref h4, .ref h5, .ref h6, .ref h7, .ref h8, .ref h9, .ref h10, .ref h11, .ref h1, .int (-1), .int (-1), .int (-1), .int (-1)])), (h1, .inl (cy 0, 3, .inl (kc 0)))] "java/lang/IllegalArgumentException" zNV := by
  refine zX.of (by decide) (Nat.le_of_ble_eq_true rfl) ?_
  intro p e s m args below meth c ls A hx hb hml hown hts hlk htab hl hK hE hA hT
  have hown : s.vm.findClass "CostBench" = some m.cls := hown
  have hl : lv_has ls 4 [(0, .ref h0), (1, .int x0), (2, .int 8), (3, .int 10)] := hl
  refine lv_iload_n (pc := 0) hx hb dX11_checkValue_0 rfl (lv_at hl 1 rfl) ?_
  refine lv_iload_n (pc := 1) hx hb dX11_checkValue_1 rfl (lv_at hl 2 rfl) ?_
  refine zb_icmp_lt_f (pc := 2) (tgt := 10) hx hb dX11_checkValue_2 (by decide) hf0 ?_
  refine lv_iload_n (pc := 5) hx hb dX11_checkValue_5 rfl (lv_at hl 1 rfl) ?_
  refine lv_iload_n (pc := 6) hx hb dX11_checkValue_6 rfl (lv_at hl 3 rfl) ?_
  refine zb_icmp_le_f (pc := 7) (tgt := 31) hx hb dX11_checkValue_7 (by decide) (znle_of_lt hf1) ?_
  refine lv_aload_n (pc := 10) hx hb dX11_checkValue_10 rfl (lv_at hl 0 rfl) ?_
  refine z_get (pc := 11) hx hb hts hown hK hT 0 11 10 rfl rfl (by decide) rfl w3_19 rfl dX11_checkValue_11 ?_
  refine lv_iconst (pc := 14) (v := 1) hx hb dX11_checkValue_14 (by decide) ?_
  refine lv_dup2_11 (pc := 15) hx hb dX11_checkValue_15 rfl rfl ?_
  refine z_iald (pc := 16) (v := 0) hx hb hK hT 1 1 rfl rfl (by decide) (by decide) rfl dX11_checkValue_16 ?_
  refine lv_iconst (pc := 17) (v := 1) hx hb dX11_checkValue_17 (by decide) ?_
  refine z_iadd (pc := 18) (v := 1) hx hb dX11_checkValue_18 (by decide) ?_
  refine z_iast (pc := 19) hx hb hK hT 1 1 rfl rfl (by decide) (by decide) dX11_checkValue_19 (upd (kc 0) 1 1) (fun _ _ => rfl) [(h0, .inr (11, [.ref h2, .ref h3, .ref h4, .ref h5, .ref h6, .ref h7, .ref h8, .ref h9, .ref h10, .ref h11, .ref h1, .int (-1), .int (-1), .int (-1), .int (-1)])), (h1, .inl (cy 0, 3, .inl (upd (kc 0) 1 1)))] rfl (fun H locs hT => ?_)
  exact z_throwA (pc := 20) hl0 hx hb hml hown hts hlk htab hE hT hl.1 (Nat.le_of_ble_eq_true rfl) (Nat.le_of_ble_eq_true rfl) (Nat.le_of_ble_eq_true rfl) dX11_checkValue_20 dX11_checkValue_23 dX11_checkValue_24 dX11_checkValue_27 dX11_checkValue_30
set_option maxHeartbeats 4000000 in
set_option maxRecDepth 100000 in
theorem k524_X11_join (l : Launch) (G : va_G) (cy : Nat → ClassId) (hl0 : l.stackTraces = false) (h0 h1 h2 h3 h4 h5 h6 h7 h8 h9 h10 h11 : Nat) (x0 : Int32) (n0 : Nat) (n1 : Nat) (n2 : Nat) (hlon0 : 0 ≤ n0) (hhin0 : n0 < 6) (hlon1 : 0 ≤ n1) (hhin1 : n1 < 6) (hlon2 : 0 ≤ n2) (hhin2 : n2 < 6) (hf0 : ¬ (x0 : Int32) < 8) (hf1 : (10 : Int32) < x0) : zX l G cy yX11_join cX11_join 5 (some .int) 2 [.ref h0, .int x0, .int (nI n0), .int (nI n1), .int (nI n2)] [(h0, .inr (11, [.ref h2, .ref h3, .ref h4, .ref h5, .ref h6, .ref h7, .ref h8, .ref h9, .ref h10, .ref h11, .ref h1, .int (-1), .int (-1), .int (-1), .int (-1)])), (h1, .inl (cy 0, 3, .inl (kc 0)))] "java/lang/IllegalArgumentException" zNI := by
  refine zX.of (by decide) (Nat.le_of_ble_eq_true rfl) ?_
  intro p e s m args below meth c ls A hx hb hml hown hts hlk htab hl hK hE hA hT
  have hown : s.vm.findClass "CostBench" = some m.cls := hown
  have hl : lv_has ls 5 [(0, .ref h0), (1, .int x0), (2, .int (nI n0)), (3, .int (nI n1)), (4, .int (nI n2))] := hl
  refine lv_aload_n (pc := 0) hx hb dX11_join_0 rfl (lv_at hl 0 rfl) ?_
  refine lv_iload_n (pc := 1) hx hb dX11_join_1 rfl (lv_at hl 2 rfl) ?_
  refine z_cVV (pc := 2) hx hb hml hown hts hK hA hT lkV_RX11_99 (k26_X11_checkSlot l G cy h0 h2 h3 h4 h5 h6 h7 h8 h9 h10 h11 h1 n0 (by omega) (by omega)) [0] [1] rfl rfl rfl rfl rfl 0 rfl rfl (by decide) rfl hl.1 rfl (Nat.le_of_ble_eq_true rfl) dX11_join_2 ⟨Nat.le_of_ble_eq_true rfl, Nat.le_of_ble_eq_true rfl⟩ (fun _ => [(h1, .inl (cy 0, 3, .inl (kc 0))), (h0, .inr (11, [.ref h2, .ref h3, .ref h4, .ref h5, .ref h6, .ref h7, .ref h8, .ref h9, .ref h10, .ref h11, .ref h1, .int (-1), .int (-1), .int (-1), .int (-1)]))]) (fun _ => rfl) (fun qs1 H locs hT => ?_)
  refine lv_aload_n (pc := 5) hx hb dX11_join_5 rfl (lv_at hl 0 rfl) ?_
  refine lv_iload_n (pc := 6) hx hb dX11_join_6 rfl (lv_at hl 3 rfl) ?_
  refine z_cVV (pc := 7) hx hb hml hown hts hK hA hT lkV_RX11_99 (k26_X11_checkSlot l G cy h0 h2 h3 h4 h5 h6 h7 h8 h9 h10 h11 h1 n1 (by omega) (by omega)) [1] [0] rfl rfl rfl rfl rfl 0 rfl rfl (by decide) rfl hl.1 rfl (Nat.le_of_ble_eq_true rfl) dX11_join_7 ⟨Nat.le_of_ble_eq_true rfl, Nat.le_of_ble_eq_true rfl⟩ (fun _ => [(h1, .inl (cy 0, 3, .inl (kc 0))), (h0, .inr (11, [.ref h2, .ref h3, .ref h4, .ref h5, .ref h6, .ref h7, .ref h8, .ref h9, .ref h10, .ref h11, .ref h1, .int (-1), .int (-1), .int (-1), .int (-1)]))]) (fun _ => rfl) (fun qs2 H locs hT => ?_)
  refine lv_aload_n (pc := 10) hx hb dX11_join_10 rfl (lv_at hl 0 rfl) ?_
  refine lv_iload (pc := 11) hx hb dX11_join_11 (lv_at hl 4 rfl) ?_
  refine z_cVV (pc := 13) hx hb hml hown hts hK hA hT lkV_RX11_99 (k26_X11_checkSlot l G cy h0 h2 h3 h4 h5 h6 h7 h8 h9 h10 h11 h1 n2 (by omega) (by omega)) [1] [0] rfl rfl rfl rfl rfl 0 rfl rfl (by decide) rfl hl.1 rfl (Nat.le_of_ble_eq_true rfl) dX11_join_13 ⟨Nat.le_of_ble_eq_true rfl, Nat.le_of_ble_eq_true rfl⟩ (fun _ => [(h1, .inl (cy 0, 3, .inl (kc 0))), (h0, .inr (11, [.ref h2, .ref h3, .ref h4, .ref h5, .ref h6, .ref h7, .ref h8, .ref h9, .ref h10, .ref h11, .ref h1, .int (-1), .int (-1), .int (-1), .int (-1)]))]) (fun _ => rfl) (fun qs3 H locs hT => ?_)
  refine lv_aload_n (pc := 16) hx hb dX11_join_16 rfl (lv_at hl 0 rfl) ?_
  refine lv_iload_n (pc := 17) hx hb dX11_join_17 rfl (lv_at hl 1 rfl) ?_
  refine lv_bipush (pc := 18) (v := 8) hx hb dX11_join_18 (by decide) ?_
  refine lv_bipush (pc := 20) (v := 10) hx hb dX11_join_20 (by decide) ?_
  exact z_cVX (pc := 22) hx hb hml hown hts hlk htab hK hE hA hT lkV_RX11_106 (k523_X11_checkValue l G cy hl0 h0 h1 h2 h3 h4 h5 h6 h7 h8 h9 h10 h11 x0 hf0 hf1) [1, 0] rfl rfl 0 rfl rfl (by decide) rfl hl.1 rfl (Nat.le_of_ble_eq_true rfl) dX11_join_22 (Nat.le_of_ble_eq_true rfl) (Nat.le_of_ble_eq_true rfl)
set_option maxHeartbeats 4000000 in
set_option maxRecDepth 100000 in
theorem k525_X11_told (l : Launch) (G : va_G) (cy : Nat → ClassId) (hl0 : l.stackTraces = false) (h0 h1 h2 h3 h4 h5 h6 h7 h8 h9 h10 h11 : Nat) (x0 : Int32) (x1 : Int32) (hf0 : (x0 : Int32) < 0) : zX l G cy yX11_told cX11_told 4 (some .int) 2 [.ref h0, .int x0, .int x1] [(h0, .inr (11, [.ref h2, .ref h3, .ref h4, .ref h5, .ref h6, .ref h7, .ref h8, .ref h9, .ref h10, .ref h11, .ref h1, .int (-1), .int (-1), .int (-1), .int (-1)])), (h1, .inl (cy 0, 3, .inl (kc 0)))] "java/util/NoSuchElementException" zNI := by
  refine zX.of (by decide) (Nat.le_of_ble_eq_true rfl) ?_
  intro p e s m args below meth c ls A hx hb hml hown hts hlk htab hl hK hE hA hT
  have hown : s.vm.findClass "CostBench" = some m.cls := hown
  have hl : lv_has ls 4 [(0, .ref h0), (1, .int x0), (2, .int x1)] := hl
  refine lv_aload_n (pc := 0) hx hb dX11_told_0 rfl (lv_at hl 0 rfl) ?_
  refine lv_iload_n (pc := 1) hx hb dX11_told_1 rfl (lv_at hl 1 rfl) ?_
  exact z_cVX (pc := 2) hx hb hml hown hts hlk htab hK hE hA hT lkV_RX11_99 (k504_X11_checkSlot l G cy hl0 h0 h1 h2 h3 h4 h5 h6 h7 h8 h9 h10 h11 x0 hf0) [0, 1] rfl rfl 0 rfl rfl (by decide) rfl hl.1 rfl (Nat.le_of_ble_eq_true rfl) dX11_told_2 (Nat.le_of_ble_eq_true rfl) (Nat.le_of_ble_eq_true rfl)
set_option maxHeartbeats 4000000 in
set_option maxRecDepth 100000 in
theorem k526_X11_told (l : Launch) (G : va_G) (cy : Nat → ClassId) (hl0 : l.stackTraces = false) (h0 h1 h2 h3 h4 h5 h6 h7 h8 h9 h10 h11 : Nat) (x0 : Int32) (x1 : Int32) (hf0 : ¬ (x0 : Int32) < 0) (hf1 : ¬ (x0 : Int32) < 6) : zX l G cy yX11_told cX11_told 4 (some .int) 2 [.ref h0, .int x0, .int x1] [(h0, .inr (11, [.ref h2, .ref h3, .ref h4, .ref h5, .ref h6, .ref h7, .ref h8, .ref h9, .ref h10, .ref h11, .ref h1, .int (-1), .int (-1), .int (-1), .int (-1)])), (h1, .inl (cy 0, 3, .inl (kc 0)))] "java/util/NoSuchElementException" zNI := by
  refine zX.of (by decide) (Nat.le_of_ble_eq_true rfl) ?_
  intro p e s m args below meth c ls A hx hb hml hown hts hlk htab hl hK hE hA hT
  have hown : s.vm.findClass "CostBench" = some m.cls := hown
  have hl : lv_has ls 4 [(0, .ref h0), (1, .int x0), (2, .int x1)] := hl
  refine lv_aload_n (pc := 0) hx hb dX11_told_0 rfl (lv_at hl 0 rfl) ?_
  refine lv_iload_n (pc := 1) hx hb dX11_told_1 rfl (lv_at hl 1 rfl) ?_
  exact z_cVX (pc := 2) hx hb hml hown hts hlk htab hK hE hA hT lkV_RX11_99 (k507_X11_checkSlot l G cy hl0 h0 h1 h2 h3 h4 h5 h6 h7 h8 h9 h10 h11 x0 hf0 hf1) [0, 1] rfl rfl 0 rfl rfl (by decide) rfl hl.1 rfl (Nat.le_of_ble_eq_true rfl) dX11_told_2 (Nat.le_of_ble_eq_true rfl) (Nat.le_of_ble_eq_true rfl)
set_option maxHeartbeats 4000000 in
set_option maxRecDepth 100000 in
theorem k527_X11_checkValue (l : Launch) (G : va_G) (cy : Nat → ClassId) (hl0 : l.stackTraces = false) (h0 h1 h2 h3 h4 h5 h6 h7 h8 h9 h10 h11 : Nat) (x0 : Int32) (hf0 : (x0 : Int32) < 0) : zX l G cy yX11_checkValue cX11_checkValue 4 none 0 [.ref h0, .int x0, .int 0, .int 10] [(h0, .inr (11, [.ref h2, .ref h3, .ref h4, .ref h5, .ref h6, .ref h7, .ref h8, .ref h9, .ref h10, .ref h11, .ref h1, .int (-1), .int (-1), .int (-1), .int (-1)])), (h1, .inl (cy 0, 3, .inl (kc 0)))] "java/lang/IllegalArgumentException" zNV := by
  refine zX.of (by decide) (Nat.le_of_ble_eq_true rfl) ?_
  intro p e s m args below meth c ls A hx hb hml hown hts hlk htab hl hK hE hA hT
  have hown : s.vm.findClass "CostBench" = some m.cls := hown
  have hl : lv_has ls 4 [(0, .ref h0), (1, .int x0), (2, .int 0), (3, .int 10)] := hl
  refine lv_iload_n (pc := 0) hx hb dX11_checkValue_0 rfl (lv_at hl 1 rfl) ?_
  refine lv_iload_n (pc := 1) hx hb dX11_checkValue_1 rfl (lv_at hl 2 rfl) ?_
  refine zb_icmp_lt_t (pc := 2) (tgt := 10) hx hb dX11_checkValue_2 (by decide) hf0 ?_
  refine lv_aload_n (pc := 10) hx hb dX11_checkValue_10 rfl (lv_at hl 0 rfl) ?_
  refine z_get (pc := 11) hx hb hts hown hK hT 0 11 10 rfl rfl (by decide) rfl w3_19 rfl dX11_checkValue_11 ?_
  refine lv_iconst (pc := 14) (v := 1) hx hb dX11_checkValue_14 (by decide) ?_
  refine lv_dup2_11 (pc := 15) hx hb dX11_checkValue_15 rfl rfl ?_
  refine z_iald (pc := 16) (v := 0) hx hb hK hT 1 1 rfl rfl (by decide) (by decide) rfl dX11_checkValue_16 ?_
  refine lv_iconst (pc := 17) (v := 1) hx hb dX11_checkValue_17 (by decide) ?_
  refine z_iadd (pc := 18) (v := 1) hx hb dX11_checkValue_18 (by decide) ?_
  refine z_iast (pc := 19) hx hb hK hT 1 1 rfl rfl (by decide) (by decide) dX11_checkValue_19 (upd (kc 0) 1 1) (fun _ _ => rfl) [(h0, .inr (11, [.ref h2, .ref h3, .ref h4, .ref h5, .ref h6, .ref h7, .ref h8, .ref h9, .ref h10, .ref h11, .ref h1, .int (-1), .int (-1), .int (-1), .int (-1)])), (h1, .inl (cy 0, 3, .inl (upd (kc 0) 1 1)))] rfl (fun H locs hT => ?_)
  exact z_throwA (pc := 20) hl0 hx hb hml hown hts hlk htab hE hT hl.1 (Nat.le_of_ble_eq_true rfl) (Nat.le_of_ble_eq_true rfl) (Nat.le_of_ble_eq_true rfl) dX11_checkValue_20 dX11_checkValue_23 dX11_checkValue_24 dX11_checkValue_27 dX11_checkValue_30
set_option maxHeartbeats 4000000 in
set_option maxRecDepth 100000 in
theorem k528_X11_told (l : Launch) (G : va_G) (cy : Nat → ClassId) (hl0 : l.stackTraces = false) (h0 h1 h2 h3 h4 h5 h6 h7 h8 h9 h10 h11 : Nat) (x0 : Int32) (n0 : Nat) (hlon0 : 0 ≤ n0) (hhin0 : n0 < 6) (hf0 : (x0 : Int32) < 0) : zX l G cy yX11_told cX11_told 4 (some .int) 2 [.ref h0, .int (nI n0), .int x0] [(h0, .inr (11, [.ref h2, .ref h3, .ref h4, .ref h5, .ref h6, .ref h7, .ref h8, .ref h9, .ref h10, .ref h11, .ref h1, .int (-1), .int (-1), .int (-1), .int (-1)])), (h1, .inl (cy 0, 3, .inl (kc 0)))] "java/lang/IllegalArgumentException" zNI := by
  refine zX.of (by decide) (Nat.le_of_ble_eq_true rfl) ?_
  intro p e s m args below meth c ls A hx hb hml hown hts hlk htab hl hK hE hA hT
  have hown : s.vm.findClass "CostBench" = some m.cls := hown
  have hl : lv_has ls 4 [(0, .ref h0), (1, .int (nI n0)), (2, .int x0)] := hl
  refine lv_aload_n (pc := 0) hx hb dX11_told_0 rfl (lv_at hl 0 rfl) ?_
  refine lv_iload_n (pc := 1) hx hb dX11_told_1 rfl (lv_at hl 1 rfl) ?_
  refine z_cVV (pc := 2) hx hb hml hown hts hK hA hT lkV_RX11_99 (k26_X11_checkSlot l G cy h0 h2 h3 h4 h5 h6 h7 h8 h9 h10 h11 h1 n0 (by omega) (by omega)) [0] [1] rfl rfl rfl rfl rfl 0 rfl rfl (by decide) rfl hl.1 rfl (Nat.le_of_ble_eq_true rfl) dX11_told_2 ⟨Nat.le_of_ble_eq_true rfl, Nat.le_of_ble_eq_true rfl⟩ (fun _ => [(h1, .inl (cy 0, 3, .inl (kc 0))), (h0, .inr (11, [.ref h2, .ref h3, .ref h4, .ref h5, .ref h6, .ref h7, .ref h8, .ref h9, .ref h10, .ref h11, .ref h1, .int (-1), .int (-1), .int (-1), .int (-1)]))]) (fun _ => rfl) (fun qs1 H locs hT => ?_)
  refine lv_aload_n (pc := 5) hx hb dX11_told_5 rfl (lv_at hl 0 rfl) ?_
  refine lv_iload_n (pc := 6) hx hb dX11_told_6 rfl (lv_at hl 2 rfl) ?_
  refine lv_iconst (pc := 7) (v := 0) hx hb dX11_told_7 (by decide) ?_
  refine lv_bipush (pc := 8) (v := 10) hx hb dX11_told_8 (by decide) ?_
  exact z_cVX (pc := 10) hx hb hml hown hts hlk htab hK hE hA hT lkV_RX11_106 (k527_X11_checkValue l G cy hl0 h0 h1 h2 h3 h4 h5 h6 h7 h8 h9 h10 h11 x0 hf0) [1, 0] rfl rfl 0 rfl rfl (by decide) rfl hl.1 rfl (Nat.le_of_ble_eq_true rfl) dX11_told_10 (Nat.le_of_ble_eq_true rfl) (Nat.le_of_ble_eq_true rfl)
set_option maxHeartbeats 4000000 in
set_option maxRecDepth 100000 in
theorem k529_X11_checkValue (l : Launch) (G : va_G) (cy : Nat → ClassId) (hl0 : l.stackTraces = false) (h0 h1 h2 h3 h4 h5 h6 h7 h8 h9 h10 h11 : Nat) (x0 : Int32) (hf0 : ¬ (x0 : Int32) < 0) (hf1 : (10 : Int32) < x0) : zX l G cy yX11_checkValue cX11_checkValue 4 none 0 [.ref h0, .int x0, .int 0, .int 10] [(h0, .inr (11, [.ref h2, .ref h3, .ref h4, .ref h5, .ref h6, .ref h7, .ref h8, .ref h9, .ref h10, .ref h11, .ref h1, .int (-1), .int (-1), .int (-1), .int (-1)])), (h1, .inl (cy 0, 3, .inl (kc 0)))] "java/lang/IllegalArgumentException" zNV := by
  refine zX.of (by decide) (Nat.le_of_ble_eq_true rfl) ?_
  intro p e s m args below meth c ls A hx hb hml hown hts hlk htab hl hK hE hA hT
  have hown : s.vm.findClass "CostBench" = some m.cls := hown
  have hl : lv_has ls 4 [(0, .ref h0), (1, .int x0), (2, .int 0), (3, .int 10)] := hl
  refine lv_iload_n (pc := 0) hx hb dX11_checkValue_0 rfl (lv_at hl 1 rfl) ?_
  refine lv_iload_n (pc := 1) hx hb dX11_checkValue_1 rfl (lv_at hl 2 rfl) ?_
  refine zb_icmp_lt_f (pc := 2) (tgt := 10) hx hb dX11_checkValue_2 (by decide) hf0 ?_
  refine lv_iload_n (pc := 5) hx hb dX11_checkValue_5 rfl (lv_at hl 1 rfl) ?_
  refine lv_iload_n (pc := 6) hx hb dX11_checkValue_6 rfl (lv_at hl 3 rfl) ?_
  refine zb_icmp_le_f (pc := 7) (tgt := 31) hx hb dX11_checkValue_7 (by decide) (znle_of_lt hf1) ?_
  refine lv_aload_n (pc := 10) hx hb dX11_checkValue_10 rfl (lv_at hl 0 rfl) ?_
  refine z_get (pc := 11) hx hb hts hown hK hT 0 11 10 rfl rfl (by decide) rfl w3_19 rfl dX11_checkValue_11 ?_
  refine lv_iconst (pc := 14) (v := 1) hx hb dX11_checkValue_14 (by decide) ?_
  refine lv_dup2_11 (pc := 15) hx hb dX11_checkValue_15 rfl rfl ?_
  refine z_iald (pc := 16) (v := 0) hx hb hK hT 1 1 rfl rfl (by decide) (by decide) rfl dX11_checkValue_16 ?_
  refine lv_iconst (pc := 17) (v := 1) hx hb dX11_checkValue_17 (by decide) ?_
  refine z_iadd (pc := 18) (v := 1) hx hb dX11_checkValue_18 (by decide) ?_
  refine z_iast (pc := 19) hx hb hK hT 1 1 rfl rfl (by decide) (by decide) dX11_checkValue_19 (upd (kc 0) 1 1) (fun _ _ => rfl) [(h0, .inr (11, [.ref h2, .ref h3, .ref h4, .ref h5, .ref h6, .ref h7, .ref h8, .ref h9, .ref h10, .ref h11, .ref h1, .int (-1), .int (-1), .int (-1), .int (-1)])), (h1, .inl (cy 0, 3, .inl (upd (kc 0) 1 1)))] rfl (fun H locs hT => ?_)
  exact z_throwA (pc := 20) hl0 hx hb hml hown hts hlk htab hE hT hl.1 (Nat.le_of_ble_eq_true rfl) (Nat.le_of_ble_eq_true rfl) (Nat.le_of_ble_eq_true rfl) dX11_checkValue_20 dX11_checkValue_23 dX11_checkValue_24 dX11_checkValue_27 dX11_checkValue_30
set_option maxHeartbeats 4000000 in
set_option maxRecDepth 100000 in
theorem k530_X11_told (l : Launch) (G : va_G) (cy : Nat → ClassId) (hl0 : l.stackTraces = false) (h0 h1 h2 h3 h4 h5 h6 h7 h8 h9 h10 h11 : Nat) (x0 : Int32) (n0 : Nat) (hlon0 : 0 ≤ n0) (hhin0 : n0 < 6) (hf0 : ¬ (x0 : Int32) < 0) (hf1 : (10 : Int32) < x0) : zX l G cy yX11_told cX11_told 4 (some .int) 2 [.ref h0, .int (nI n0), .int x0] [(h0, .inr (11, [.ref h2, .ref h3, .ref h4, .ref h5, .ref h6, .ref h7, .ref h8, .ref h9, .ref h10, .ref h11, .ref h1, .int (-1), .int (-1), .int (-1), .int (-1)])), (h1, .inl (cy 0, 3, .inl (kc 0)))] "java/lang/IllegalArgumentException" zNI := by
  refine zX.of (by decide) (Nat.le_of_ble_eq_true rfl) ?_
  intro p e s m args below meth c ls A hx hb hml hown hts hlk htab hl hK hE hA hT
  have hown : s.vm.findClass "CostBench" = some m.cls := hown
  have hl : lv_has ls 4 [(0, .ref h0), (1, .int (nI n0)), (2, .int x0)] := hl
  refine lv_aload_n (pc := 0) hx hb dX11_told_0 rfl (lv_at hl 0 rfl) ?_
  refine lv_iload_n (pc := 1) hx hb dX11_told_1 rfl (lv_at hl 1 rfl) ?_
  refine z_cVV (pc := 2) hx hb hml hown hts hK hA hT lkV_RX11_99 (k26_X11_checkSlot l G cy h0 h2 h3 h4 h5 h6 h7 h8 h9 h10 h11 h1 n0 (by omega) (by omega)) [0] [1] rfl rfl rfl rfl rfl 0 rfl rfl (by decide) rfl hl.1 rfl (Nat.le_of_ble_eq_true rfl) dX11_told_2 ⟨Nat.le_of_ble_eq_true rfl, Nat.le_of_ble_eq_true rfl⟩ (fun _ => [(h1, .inl (cy 0, 3, .inl (kc 0))), (h0, .inr (11, [.ref h2, .ref h3, .ref h4, .ref h5, .ref h6, .ref h7, .ref h8, .ref h9, .ref h10, .ref h11, .ref h1, .int (-1), .int (-1), .int (-1), .int (-1)]))]) (fun _ => rfl) (fun qs1 H locs hT => ?_)
  refine lv_aload_n (pc := 5) hx hb dX11_told_5 rfl (lv_at hl 0 rfl) ?_
  refine lv_iload_n (pc := 6) hx hb dX11_told_6 rfl (lv_at hl 2 rfl) ?_
  refine lv_iconst (pc := 7) (v := 0) hx hb dX11_told_7 (by decide) ?_
  refine lv_bipush (pc := 8) (v := 10) hx hb dX11_told_8 (by decide) ?_
  exact z_cVX (pc := 10) hx hb hml hown hts hlk htab hK hE hA hT lkV_RX11_106 (k529_X11_checkValue l G cy hl0 h0 h1 h2 h3 h4 h5 h6 h7 h8 h9 h10 h11 x0 hf0 hf1) [1, 0] rfl rfl 0 rfl rfl (by decide) rfl hl.1 rfl (Nat.le_of_ble_eq_true rfl) dX11_told_10 (Nat.le_of_ble_eq_true rfl) (Nat.le_of_ble_eq_true rfl)
set_option maxHeartbeats 4000000 in
set_option maxRecDepth 100000 in
theorem k531_X11_arc (l : Launch) (G : va_G) (cy : Nat → ClassId) (hl0 : l.stackTraces = false) (h0 h1 h2 h3 h4 h5 h6 h7 h8 h9 h10 h11 : Nat) (x0 : Int32) (x1 : Int32) (x2 : Int32) (hf0 : (x0 : Int32) < 0) : zX l G cy yX11_arc cX11_arc 5 (some .int) 2 [.ref h0, .int x0, .int x1, .int x2] [(h0, .inr (11, [.ref h2, .ref h3, .ref h4, .ref h5, .ref h6, .ref h7, .ref h8, .ref h9, .ref h10, .ref h11, .ref h1, .int (-1), .int (-1), .int (-1), .int (-1)])), (h1, .inl (cy 0, 3, .inl (kc 0)))] "java/util/NoSuchElementException" zNI := by
  refine zX.of (by decide) (Nat.le_of_ble_eq_true rfl) ?_
  intro p e s m args below meth c ls A hx hb hml hown hts hlk htab hl hK hE hA hT
  have hown : s.vm.findClass "CostBench" = some m.cls := hown
  have hl : lv_has ls 5 [(0, .ref h0), (1, .int x0), (2, .int x1), (3, .int x2)] := hl
  refine lv_aload_n (pc := 0) hx hb dX11_arc_0 rfl (lv_at hl 0 rfl) ?_
  refine lv_iload_n (pc := 1) hx hb dX11_arc_1 rfl (lv_at hl 1 rfl) ?_
  exact z_cVX (pc := 2) hx hb hml hown hts hlk htab hK hE hA hT lkV_RX11_99 (k504_X11_checkSlot l G cy hl0 h0 h1 h2 h3 h4 h5 h6 h7 h8 h9 h10 h11 x0 hf0) [0, 1] rfl rfl 0 rfl rfl (by decide) rfl hl.1 rfl (Nat.le_of_ble_eq_true rfl) dX11_arc_2 (Nat.le_of_ble_eq_true rfl) (Nat.le_of_ble_eq_true rfl)
set_option maxHeartbeats 4000000 in
set_option maxRecDepth 100000 in
theorem k532_X11_arc (l : Launch) (G : va_G) (cy : Nat → ClassId) (hl0 : l.stackTraces = false) (h0 h1 h2 h3 h4 h5 h6 h7 h8 h9 h10 h11 : Nat) (x0 : Int32) (x1 : Int32) (x2 : Int32) (hf0 : ¬ (x0 : Int32) < 0) (hf1 : ¬ (x0 : Int32) < 6) : zX l G cy yX11_arc cX11_arc 5 (some .int) 2 [.ref h0, .int x0, .int x1, .int x2] [(h0, .inr (11, [.ref h2, .ref h3, .ref h4, .ref h5, .ref h6, .ref h7, .ref h8, .ref h9, .ref h10, .ref h11, .ref h1, .int (-1), .int (-1), .int (-1), .int (-1)])), (h1, .inl (cy 0, 3, .inl (kc 0)))] "java/util/NoSuchElementException" zNI := by
  refine zX.of (by decide) (Nat.le_of_ble_eq_true rfl) ?_
  intro p e s m args below meth c ls A hx hb hml hown hts hlk htab hl hK hE hA hT
  have hown : s.vm.findClass "CostBench" = some m.cls := hown
  have hl : lv_has ls 5 [(0, .ref h0), (1, .int x0), (2, .int x1), (3, .int x2)] := hl
  refine lv_aload_n (pc := 0) hx hb dX11_arc_0 rfl (lv_at hl 0 rfl) ?_
  refine lv_iload_n (pc := 1) hx hb dX11_arc_1 rfl (lv_at hl 1 rfl) ?_
  exact z_cVX (pc := 2) hx hb hml hown hts hlk htab hK hE hA hT lkV_RX11_99 (k507_X11_checkSlot l G cy hl0 h0 h1 h2 h3 h4 h5 h6 h7 h8 h9 h10 h11 x0 hf0 hf1) [0, 1] rfl rfl 0 rfl rfl (by decide) rfl hl.1 rfl (Nat.le_of_ble_eq_true rfl) dX11_arc_2 (Nat.le_of_ble_eq_true rfl) (Nat.le_of_ble_eq_true rfl)
set_option maxHeartbeats 4000000 in
set_option maxRecDepth 100000 in
theorem k533_X11_checkThere (l : Launch) (G : va_G) (cy : Nat → ClassId) (hl0 : l.stackTraces = false) (h0 h1 h2 h3 h4 h5 h6 h7 h8 h9 h10 h11 : Nat) (x0 : Int32) (hf0 : (x0 : Int32) < 0) : zX l G cy yX11_checkThere cX11_checkThere 3 none 0 [.ref h0, .int x0, .int 0] [(h0, .inr (11, [.ref h2, .ref h3, .ref h4, .ref h5, .ref h6, .ref h7, .ref h8, .ref h9, .ref h10, .ref h11, .ref h1, .int (-1), .int (-1), .int (-1), .int (-1)])), (h1, .inl (cy 0, 3, .inl (kc 0)))] "java/util/NoSuchElementException" zNV := by
  refine zX.of (by decide) (Nat.le_of_ble_eq_true rfl) ?_
  intro p e s m args below meth c ls A hx hb hml hown hts hlk htab hl hK hE hA hT
  have hown : s.vm.findClass "CostBench" = some m.cls := hown
  have hl : lv_has ls 3 [(0, .ref h0), (1, .int x0), (2, .int 0)] := hl
  refine lv_iload_n (pc := 0) hx hb dX11_checkThere_0 rfl (lv_at hl 1 rfl) ?_
  refine zb_if_lt_t (pc := 1) (tgt := 9) hx hb dX11_checkThere_1 (by decide) hf0 ?_
  refine lv_aload_n (pc := 9) hx hb dX11_checkThere_9 rfl (lv_at hl 0 rfl) ?_
  refine z_get (pc := 10) hx hb hts hown hK hT 0 11 10 rfl rfl (by decide) rfl w3_19 rfl dX11_checkThere_10 ?_
  refine lv_iconst (pc := 13) (v := 0) hx hb dX11_checkThere_13 (by decide) ?_
  refine lv_dup2_11 (pc := 14) hx hb dX11_checkThere_14 rfl rfl ?_
  refine z_iald (pc := 15) (v := 0) hx hb hK hT 1 0 rfl rfl (by decide) (by decide) rfl dX11_checkThere_15 ?_
  refine lv_iconst (pc := 16) (v := 1) hx hb dX11_checkThere_16 (by decide) ?_
  refine z_iadd (pc := 17) (v := 1) hx hb dX11_checkThere_17 (by decide) ?_
  refine z_iast (pc := 18) hx hb hK hT 1 0 rfl rfl (by decide) (by decide) dX11_checkThere_18 (upd (kc 0) 0 1) (fun _ _ => rfl) [(h0, .inr (11, [.ref h2, .ref h3, .ref h4, .ref h5, .ref h6, .ref h7, .ref h8, .ref h9, .ref h10, .ref h11, .ref h1, .int (-1), .int (-1), .int (-1), .int (-1)])), (h1, .inl (cy 0, 3, .inl (upd (kc 0) 0 1)))] rfl (fun H locs hT => ?_)
  exact z_throwN (pc := 19) hl0 hx hb hml hown hts hlk htab hE hT hl.1 (Nat.le_of_ble_eq_true rfl) (Nat.le_of_ble_eq_true rfl) (Nat.le_of_ble_eq_true rfl) dX11_checkThere_19 dX11_checkThere_22 dX11_checkThere_23 dX11_checkThere_26 dX11_checkThere_29
set_option maxHeartbeats 4000000 in
set_option maxRecDepth 100000 in
theorem k534_X11_arc (l : Launch) (G : va_G) (cy : Nat → ClassId) (hl0 : l.stackTraces = false) (h0 h1 h2 h3 h4 h5 h6 h7 h8 h9 h10 h11 h12 h13 h14 h15 h16 h17 h18 h19 h20 h21 : Nat) (x0 : Int32) (x1 : Int32) (n0 : Nat) (g0 : Nat → Nat) (hlon0 : 0 ≤ n0) (hhin0 : n0 < 6) (hf0 : (x0 : Int32) < 0) : zX l G cy yX11_arc cX11_arc 5 (some .int) 2 [.ref h0, .int (nI n0), .int x0, .int x1] [(h0, .inr (11, [.ref h1, .ref h3, .ref h4, .ref h5, .ref h6, .ref h7, .ref h8, .ref h9, .ref h10, .ref h11, .ref h2, .int (-1), .int (-1), .int (-1), .int (-1)])), (h1, .inl (cy 3, 6, .inr (.inr (.inr (.inr (fun i => some (g0 i))))))), ((g0 n0), .inr (3, [.int 1, .int 0, .int 0, .int 0, .ref h12, .ref h13, .ref h14, .ref h15, .ref h16, .ref h17, .ref h18, .ref h19, .ref h20, .ref h21])), (h2, .inl (cy 0, 3, .inl (kc 0)))] "java/util/NoSuchElementException" zNI := by
  refine zX.of (by decide) (Nat.le_of_ble_eq_true rfl) ?_
  intro p e s m args below meth c ls A hx hb hml hown hts hlk htab hl hK hE hA hT
  have hown : s.vm.findClass "CostBench" = some m.cls := hown
  have hl : lv_has ls 5 [(0, .ref h0), (1, .int (nI n0)), (2, .int x0), (3, .int x1)] := hl
  refine lv_aload_n (pc := 0) hx hb dX11_arc_0 rfl (lv_at hl 0 rfl) ?_
  refine lv_iload_n (pc := 1) hx hb dX11_arc_1 rfl (lv_at hl 1 rfl) ?_
  refine z_cVV (pc := 2) hx hb hml hown hts hK hA hT lkV_RX11_99 (k26_X11_checkSlot l G cy h0 h1 h3 h4 h5 h6 h7 h8 h9 h10 h11 h2 n0 (by omega) (by omega)) [0] [1, 2, 3] rfl rfl rfl rfl rfl 0 rfl rfl (by decide) rfl hl.1 rfl (Nat.le_of_ble_eq_true rfl) dX11_arc_2 ⟨Nat.le_of_ble_eq_true rfl, Nat.le_of_ble_eq_true rfl⟩ (fun _ => [(h1, .inl (cy 3, 6, .inr (.inr (.inr (.inr (fun i => some (g0 i))))))), ((g0 n0), .inr (3, [.int 1, .int 0, .int 0, .int 0, .ref h12, .ref h13, .ref h14, .ref h15, .ref h16, .ref h17, .ref h18, .ref h19, .ref h20, .ref h21])), (h2, .inl (cy 0, 3, .inl (kc 0))), (h0, .inr (11, [.ref h1, .ref h3, .ref h4, .ref h5, .ref h6, .ref h7, .ref h8, .ref h9, .ref h10, .ref h11, .ref h2, .int (-1), .int (-1), .int (-1), .int (-1)]))]) (fun _ => rfl) (fun qs1 H locs hT => ?_)
  refine lv_aload_n (pc := 5) hx hb dX11_arc_5 rfl (lv_at hl 0 rfl) ?_
  refine z_get (pc := 6) hx hb hts hown hK hT 3 11 0 rfl rfl (by decide) rfl w3_9 rfl dX11_arc_6 ?_
  refine lv_iload_n (pc := 9) hx hb dX11_arc_9 rfl (lv_at hl 1 rfl) ?_
  refine z_aaldN (pc := 10) hx hb hK hT 0 3 n0 rfl rfl rfl rfl (by omega) (by decide) rfl dX11_arc_10 ?_
  refine lv_astore (pc := 11) (lv' := [(4, .ref (g0 n0)), (0, .ref h0), (1, .int (nI n0)), (2, .int x0), (3, .int x1)]) hx hb dX11_arc_11 hl (by decide) rfl (fun ls hl => ?_)
  refine lv_aload_n (pc := 13) hx hb dX11_arc_13 rfl (lv_at hl 1 rfl) ?_
  refine lv_iload_n (pc := 14) hx hb dX11_arc_14 rfl (lv_at hl 3 rfl) ?_
  refine lv_aload (pc := 15) hx hb dX11_arc_15 (lv_at hl 0 rfl) ?_
  refine z_get (pc := 17) hx hb hts hown hK hT 1 3 2 rfl rfl (by decide) rfl w1_66 rfl dX11_arc_17 ?_
  exact z_cVX (pc := 20) hx hb hml hown hts hlk htab hK hE hA hT lkV_RX11_176 (k533_X11_checkThere l G cy hl0 h0 h2 h1 h3 h4 h5 h6 h7 h8 h9 h10 h11 x0 hf0) [3, 2] rfl rfl 0 rfl rfl (by decide) rfl hl.1 rfl (Nat.le_of_ble_eq_true rfl) dX11_arc_20 (Nat.le_of_ble_eq_true rfl) (Nat.le_of_ble_eq_true rfl)
set_option maxHeartbeats 4000000 in
set_option maxRecDepth 100000 in
theorem k535_X11_checkThere (l : Launch) (G : va_G) (cy : Nat → ClassId) (hl0 : l.stackTraces = false) (h0 h1 h2 h3 h4 h5 h6 h7 h8 h9 h10 h11 : Nat) (x0 : Int32) (hf0 : ¬ (x0 : Int32) < 0) : zX l G cy yX11_checkThere cX11_checkThere 3 none 0 [.ref h0, .int x0, .int 0] [(h0, .inr (11, [.ref h2, .ref h3, .ref h4, .ref h5, .ref h6, .ref h7, .ref h8, .ref h9, .ref h10, .ref h11, .ref h1, .int (-1), .int (-1), .int (-1), .int (-1)])), (h1, .inl (cy 0, 3, .inl (kc 0)))] "java/util/NoSuchElementException" zNV := by
  refine zX.of (by decide) (Nat.le_of_ble_eq_true rfl) ?_
  intro p e s m args below meth c ls A hx hb hml hown hts hlk htab hl hK hE hA hT
  have hown : s.vm.findClass "CostBench" = some m.cls := hown
  have hl : lv_has ls 3 [(0, .ref h0), (1, .int x0), (2, .int 0)] := hl
  refine lv_iload_n (pc := 0) hx hb dX11_checkThere_0 rfl (lv_at hl 1 rfl) ?_
  refine zb_if_lt_f (pc := 1) (tgt := 9) hx hb dX11_checkThere_1 (by decide) hf0 ?_
  refine lv_iload_n (pc := 4) hx hb dX11_checkThere_4 rfl (lv_at hl 1 rfl) ?_
  refine lv_iload_n (pc := 5) hx hb dX11_checkThere_5 rfl (lv_at hl 2 rfl) ?_
  refine zb_icmp_lt_f (pc := 6) (tgt := 30) hx hb dX11_checkThere_6 (by decide) hf0 ?_
  refine lv_aload_n (pc := 9) hx hb dX11_checkThere_9 rfl (lv_at hl 0 rfl) ?_
  refine z_get (pc := 10) hx hb hts hown hK hT 0 11 10 rfl rfl (by decide) rfl w3_19 rfl dX11_checkThere_10 ?_
  refine lv_iconst (pc := 13) (v := 0) hx hb dX11_checkThere_13 (by decide) ?_
  refine lv_dup2_11 (pc := 14) hx hb dX11_checkThere_14 rfl rfl ?_
  refine z_iald (pc := 15) (v := 0) hx hb hK hT 1 0 rfl rfl (by decide) (by decide) rfl dX11_checkThere_15 ?_
  refine lv_iconst (pc := 16) (v := 1) hx hb dX11_checkThere_16 (by decide) ?_
  refine z_iadd (pc := 17) (v := 1) hx hb dX11_checkThere_17 (by decide) ?_
  refine z_iast (pc := 18) hx hb hK hT 1 0 rfl rfl (by decide) (by decide) dX11_checkThere_18 (upd (kc 0) 0 1) (fun _ _ => rfl) [(h0, .inr (11, [.ref h2, .ref h3, .ref h4, .ref h5, .ref h6, .ref h7, .ref h8, .ref h9, .ref h10, .ref h11, .ref h1, .int (-1), .int (-1), .int (-1), .int (-1)])), (h1, .inl (cy 0, 3, .inl (upd (kc 0) 0 1)))] rfl (fun H locs hT => ?_)
  exact z_throwN (pc := 19) hl0 hx hb hml hown hts hlk htab hE hT hl.1 (Nat.le_of_ble_eq_true rfl) (Nat.le_of_ble_eq_true rfl) (Nat.le_of_ble_eq_true rfl) dX11_checkThere_19 dX11_checkThere_22 dX11_checkThere_23 dX11_checkThere_26 dX11_checkThere_29
set_option maxHeartbeats 4000000 in
set_option maxRecDepth 100000 in
theorem k536_X11_arc (l : Launch) (G : va_G) (cy : Nat → ClassId) (hl0 : l.stackTraces = false) (h0 h1 h2 h3 h4 h5 h6 h7 h8 h9 h10 h11 h12 h13 h14 h15 h16 h17 h18 h19 h20 h21 : Nat) (x0 : Int32) (x1 : Int32) (n0 : Nat) (g0 : Nat → Nat) (hlon0 : 0 ≤ n0) (hhin0 : n0 < 6) (hf0 : ¬ (x0 : Int32) < 0) : zX l G cy yX11_arc cX11_arc 5 (some .int) 2 [.ref h0, .int (nI n0), .int x0, .int x1] [(h0, .inr (11, [.ref h1, .ref h3, .ref h4, .ref h5, .ref h6, .ref h7, .ref h8, .ref h9, .ref h10, .ref h11, .ref h2, .int (-1), .int (-1), .int (-1), .int (-1)])), (h1, .inl (cy 3, 6, .inr (.inr (.inr (.inr (fun i => some (g0 i))))))), ((g0 n0), .inr (3, [.int 1, .int 0, .int 0, .int 0, .ref h12, .ref h13, .ref h14, .ref h15, .ref h16, .ref h17, .ref h18, .ref h19, .ref h20, .ref h21])), (h2, .inl (cy 0, 3, .inl (kc 0)))] "java/util/NoSuchElementException" zNI := by
  refine zX.of (by decide) (Nat.le_of_ble_eq_true rfl) ?_
  intro p e s m args below meth c ls A hx hb hml hown hts hlk htab hl hK hE hA hT
  have hown : s.vm.findClass "CostBench" = some m.cls := hown
  have hl : lv_has ls 5 [(0, .ref h0), (1, .int (nI n0)), (2, .int x0), (3, .int x1)] := hl
  refine lv_aload_n (pc := 0) hx hb dX11_arc_0 rfl (lv_at hl 0 rfl) ?_
  refine lv_iload_n (pc := 1) hx hb dX11_arc_1 rfl (lv_at hl 1 rfl) ?_
  refine z_cVV (pc := 2) hx hb hml hown hts hK hA hT lkV_RX11_99 (k26_X11_checkSlot l G cy h0 h1 h3 h4 h5 h6 h7 h8 h9 h10 h11 h2 n0 (by omega) (by omega)) [0] [1, 2, 3] rfl rfl rfl rfl rfl 0 rfl rfl (by decide) rfl hl.1 rfl (Nat.le_of_ble_eq_true rfl) dX11_arc_2 ⟨Nat.le_of_ble_eq_true rfl, Nat.le_of_ble_eq_true rfl⟩ (fun _ => [(h1, .inl (cy 3, 6, .inr (.inr (.inr (.inr (fun i => some (g0 i))))))), ((g0 n0), .inr (3, [.int 1, .int 0, .int 0, .int 0, .ref h12, .ref h13, .ref h14, .ref h15, .ref h16, .ref h17, .ref h18, .ref h19, .ref h20, .ref h21])), (h2, .inl (cy 0, 3, .inl (kc 0))), (h0, .inr (11, [.ref h1, .ref h3, .ref h4, .ref h5, .ref h6, .ref h7, .ref h8, .ref h9, .ref h10, .ref h11, .ref h2, .int (-1), .int (-1), .int (-1), .int (-1)]))]) (fun _ => rfl) (fun qs1 H locs hT => ?_)
  refine lv_aload_n (pc := 5) hx hb dX11_arc_5 rfl (lv_at hl 0 rfl) ?_
  refine z_get (pc := 6) hx hb hts hown hK hT 3 11 0 rfl rfl (by decide) rfl w3_9 rfl dX11_arc_6 ?_
  refine lv_iload_n (pc := 9) hx hb dX11_arc_9 rfl (lv_at hl 1 rfl) ?_
  refine z_aaldN (pc := 10) hx hb hK hT 0 3 n0 rfl rfl rfl rfl (by omega) (by decide) rfl dX11_arc_10 ?_
  refine lv_astore (pc := 11) (lv' := [(4, .ref (g0 n0)), (0, .ref h0), (1, .int (nI n0)), (2, .int x0), (3, .int x1)]) hx hb dX11_arc_11 hl (by decide) rfl (fun ls hl => ?_)
  refine lv_aload_n (pc := 13) hx hb dX11_arc_13 rfl (lv_at hl 1 rfl) ?_
  refine lv_iload_n (pc := 14) hx hb dX11_arc_14 rfl (lv_at hl 3 rfl) ?_
  refine lv_aload (pc := 15) hx hb dX11_arc_15 (lv_at hl 0 rfl) ?_
  refine z_get (pc := 17) hx hb hts hown hK hT 1 3 2 rfl rfl (by decide) rfl w1_66 rfl dX11_arc_17 ?_
  exact z_cVX (pc := 20) hx hb hml hown hts hlk htab hK hE hA hT lkV_RX11_176 (k535_X11_checkThere l G cy hl0 h0 h2 h1 h3 h4 h5 h6 h7 h8 h9 h10 h11 x0 hf0) [3, 2] rfl rfl 0 rfl rfl (by decide) rfl hl.1 rfl (Nat.le_of_ble_eq_true rfl) dX11_arc_20 (Nat.le_of_ble_eq_true rfl) (Nat.le_of_ble_eq_true rfl)
set_option maxHeartbeats 4000000 in
set_option maxRecDepth 100000 in
theorem k537_X11_last (l : Launch) (G : va_G) (cy : Nat → ClassId) (hl0 : l.stackTraces = false) (h0 h1 h2 h3 h4 h5 h6 h7 h8 h9 h10 h11 : Nat) (x0 : Int32) (x1 : Int32) (hf0 : (x0 : Int32) < 0) : zX l G cy yX11_last cX11_last 3 (some .int) 2 [.ref h0, .int x0, .int x1] [(h0, .inr (11, [.ref h2, .ref h3, .ref h4, .ref h5, .ref h6, .ref h7, .ref h8, .ref h9, .ref h10, .ref h11, .ref h1, .int (-1), .int (-1), .int (-1), .int (-1)])), (h1, .inl (cy 0, 3, .inl (kc 0)))] "java/util/NoSuchElementException" zNI := by
  refine zX.of (by decide) (Nat.le_of_ble_eq_true rfl) ?_
  intro p e s m args below meth c ls A hx hb hml hown hts hlk htab hl hK hE hA hT
  have hown : s.vm.findClass "CostBench" = some m.cls := hown
  have hl : lv_has ls 3 [(0, .ref h0), (1, .int x0), (2, .int x1)] := hl
  refine lv_aload_n (pc := 0) hx hb dX11_last_0 rfl (lv_at hl 0 rfl) ?_
  refine lv_iload_n (pc := 1) hx hb dX11_last_1 rfl (lv_at hl 1 rfl) ?_
  exact z_cVX (pc := 2) hx hb hml hown hts hlk htab hK hE hA hT lkV_RX11_99 (k504_X11_checkSlot l G cy hl0 h0 h1 h2 h3 h4 h5 h6 h7 h8 h9 h10 h11 x0 hf0) [0, 1] rfl rfl 0 rfl rfl (by decide) rfl hl.1 rfl (Nat.le_of_ble_eq_true rfl) dX11_last_2 (Nat.le_of_ble_eq_true rfl) (Nat.le_of_ble_eq_true rfl)
set_option maxHeartbeats 4000000 in
set_option maxRecDepth 100000 in
theorem k538_X11_last (l : Launch) (G : va_G) (cy : Nat → ClassId) (hl0 : l.stackTraces = false) (h0 h1 h2 h3 h4 h5 h6 h7 h8 h9 h10 h11 : Nat) (x0 : Int32) (x1 : Int32) (hf0 : ¬ (x0 : Int32) < 0) (hf1 : ¬ (x0 : Int32) < 6) : zX l G cy yX11_last cX11_last 3 (some .int) 2 [.ref h0, .int x0, .int x1] [(h0, .inr (11, [.ref h2, .ref h3, .ref h4, .ref h5, .ref h6, .ref h7, .ref h8, .ref h9, .ref h10, .ref h11, .ref h1, .int (-1), .int (-1), .int (-1), .int (-1)])), (h1, .inl (cy 0, 3, .inl (kc 0)))] "java/util/NoSuchElementException" zNI := by
  refine zX.of (by decide) (Nat.le_of_ble_eq_true rfl) ?_
  intro p e s m args below meth c ls A hx hb hml hown hts hlk htab hl hK hE hA hT
  have hown : s.vm.findClass "CostBench" = some m.cls := hown
  have hl : lv_has ls 3 [(0, .ref h0), (1, .int x0), (2, .int x1)] := hl
  refine lv_aload_n (pc := 0) hx hb dX11_last_0 rfl (lv_at hl 0 rfl) ?_
  refine lv_iload_n (pc := 1) hx hb dX11_last_1 rfl (lv_at hl 1 rfl) ?_
  exact z_cVX (pc := 2) hx hb hml hown hts hlk htab hK hE hA hT lkV_RX11_99 (k507_X11_checkSlot l G cy hl0 h0 h1 h2 h3 h4 h5 h6 h7 h8 h9 h10 h11 x0 hf0 hf1) [0, 1] rfl rfl 0 rfl rfl (by decide) rfl hl.1 rfl (Nat.le_of_ble_eq_true rfl) dX11_last_2 (Nat.le_of_ble_eq_true rfl) (Nat.le_of_ble_eq_true rfl)
set_option maxHeartbeats 4000000 in
set_option maxRecDepth 100000 in
theorem k539_X11_checkThere (l : Launch) (G : va_G) (cy : Nat → ClassId) (hl0 : l.stackTraces = false) (h0 h1 h2 h3 h4 h5 h6 h7 h8 h9 h10 h11 : Nat) (x0 : Int32) (hf0 : (x0 : Int32) < 0) : zX l G cy yX11_checkThere cX11_checkThere 3 none 0 [.ref h0, .int x0, .int 1] [(h0, .inr (11, [.ref h2, .ref h3, .ref h4, .ref h5, .ref h6, .ref h7, .ref h8, .ref h9, .ref h10, .ref h11, .ref h1, .int (-1), .int (-1), .int (-1), .int (-1)])), (h1, .inl (cy 0, 3, .inl (kc 0)))] "java/util/NoSuchElementException" zNV := by
  refine zX.of (by decide) (Nat.le_of_ble_eq_true rfl) ?_
  intro p e s m args below meth c ls A hx hb hml hown hts hlk htab hl hK hE hA hT
  have hown : s.vm.findClass "CostBench" = some m.cls := hown
  have hl : lv_has ls 3 [(0, .ref h0), (1, .int x0), (2, .int 1)] := hl
  refine lv_iload_n (pc := 0) hx hb dX11_checkThere_0 rfl (lv_at hl 1 rfl) ?_
  refine zb_if_lt_t (pc := 1) (tgt := 9) hx hb dX11_checkThere_1 (by decide) hf0 ?_
  refine lv_aload_n (pc := 9) hx hb dX11_checkThere_9 rfl (lv_at hl 0 rfl) ?_
  refine z_get (pc := 10) hx hb hts hown hK hT 0 11 10 rfl rfl (by decide) rfl w3_19 rfl dX11_checkThere_10 ?_
  refine lv_iconst (pc := 13) (v := 0) hx hb dX11_checkThere_13 (by decide) ?_
  refine lv_dup2_11 (pc := 14) hx hb dX11_checkThere_14 rfl rfl ?_
  refine z_iald (pc := 15) (v := 0) hx hb hK hT 1 0 rfl rfl (by decide) (by decide) rfl dX11_checkThere_15 ?_
  refine lv_iconst (pc := 16) (v := 1) hx hb dX11_checkThere_16 (by decide) ?_
  refine z_iadd (pc := 17) (v := 1) hx hb dX11_checkThere_17 (by decide) ?_
  refine z_iast (pc := 18) hx hb hK hT 1 0 rfl rfl (by decide) (by decide) dX11_checkThere_18 (upd (kc 0) 0 1) (fun _ _ => rfl) [(h0, .inr (11, [.ref h2, .ref h3, .ref h4, .ref h5, .ref h6, .ref h7, .ref h8, .ref h9, .ref h10, .ref h11, .ref h1, .int (-1), .int (-1), .int (-1), .int (-1)])), (h1, .inl (cy 0, 3, .inl (upd (kc 0) 0 1)))] rfl (fun H locs hT => ?_)
  exact z_throwN (pc := 19) hl0 hx hb hml hown hts hlk htab hE hT hl.1 (Nat.le_of_ble_eq_true rfl) (Nat.le_of_ble_eq_true rfl) (Nat.le_of_ble_eq_true rfl) dX11_checkThere_19 dX11_checkThere_22 dX11_checkThere_23 dX11_checkThere_26 dX11_checkThere_29
set_option maxHeartbeats 4000000 in
set_option maxRecDepth 100000 in
theorem k540_X11_last (l : Launch) (G : va_G) (cy : Nat → ClassId) (hl0 : l.stackTraces = false) (h0 h1 h2 h3 h4 h5 h6 h7 h8 h9 h10 h11 h12 h13 h14 h15 h16 h17 h18 h19 h20 h21 : Nat) (x0 : Int32) (n0 : Nat) (g0 : Nat → Nat) (hlon0 : 0 ≤ n0) (hhin0 : n0 < 6) (hf0 : (x0 : Int32) < 0) : zX l G cy yX11_last cX11_last 3 (some .int) 2 [.ref h0, .int (nI n0), .int x0] [(h0, .inr (11, [.ref h1, .ref h3, .ref h4, .ref h5, .ref h6, .ref h7, .ref h8, .ref h9, .ref h10, .ref h11, .ref h2, .int (-1), .int (-1), .int (-1), .int (-1)])), (h1, .inl (cy 3, 6, .inr (.inr (.inr (.inr (fun i => some (g0 i))))))), ((g0 n0), .inr (3, [.int 1, .int 0, .int 0, .int 0, .ref h12, .ref h13, .ref h14, .ref h15, .ref h16, .ref h17, .ref h18, .ref h19, .ref h20, .ref h21])), (h2, .inl (cy 0, 3, .inl (kc 0)))] "java/util/NoSuchElementException" zNI := by
  refine zX.of (by decide) (Nat.le_of_ble_eq_true rfl) ?_
  intro p e s m args below meth c ls A hx hb hml hown hts hlk htab hl hK hE hA hT
  have hown : s.vm.findClass "CostBench" = some m.cls := hown
  have hl : lv_has ls 3 [(0, .ref h0), (1, .int (nI n0)), (2, .int x0)] := hl
  refine lv_aload_n (pc := 0) hx hb dX11_last_0 rfl (lv_at hl 0 rfl) ?_
  refine lv_iload_n (pc := 1) hx hb dX11_last_1 rfl (lv_at hl 1 rfl) ?_
  refine z_cVV (pc := 2) hx hb hml hown hts hK hA hT lkV_RX11_99 (k26_X11_checkSlot l G cy h0 h1 h3 h4 h5 h6 h7 h8 h9 h10 h11 h2 n0 (by omega) (by omega)) [0] [1, 2, 3] rfl rfl rfl rfl rfl 0 rfl rfl (by decide) rfl hl.1 rfl (Nat.le_of_ble_eq_true rfl) dX11_last_2 ⟨Nat.le_of_ble_eq_true rfl, Nat.le_of_ble_eq_true rfl⟩ (fun _ => [(h1, .inl (cy 3, 6, .inr (.inr (.inr (.inr (fun i => some (g0 i))))))), ((g0 n0), .inr (3, [.int 1, .int 0, .int 0, .int 0, .ref h12, .ref h13, .ref h14, .ref h15, .ref h16, .ref h17, .ref h18, .ref h19, .ref h20, .ref h21])), (h2, .inl (cy 0, 3, .inl (kc 0))), (h0, .inr (11, [.ref h1, .ref h3, .ref h4, .ref h5, .ref h6, .ref h7, .ref h8, .ref h9, .ref h10, .ref h11, .ref h2, .int (-1), .int (-1), .int (-1), .int (-1)]))]) (fun _ => rfl) (fun qs1 H locs hT => ?_)
  refine lv_aload_n (pc := 5) hx hb dX11_last_5 rfl (lv_at hl 0 rfl) ?_
  refine lv_iload_n (pc := 6) hx hb dX11_last_6 rfl (lv_at hl 2 rfl) ?_
  refine lv_aload_n (pc := 7) hx hb dX11_last_7 rfl (lv_at hl 0 rfl) ?_
  refine z_get (pc := 8) hx hb hts hown hK hT 3 11 0 rfl rfl (by decide) rfl w3_9 rfl dX11_last_8 ?_
  refine lv_iload_n (pc := 11) hx hb dX11_last_11 rfl (lv_at hl 1 rfl) ?_
  refine z_aaldN (pc := 12) hx hb hK hT 0 3 n0 rfl rfl rfl rfl (by omega) (by decide) rfl dX11_last_12 ?_
  refine z_get (pc := 13) hx hb hts hown hK hT 1 3 0 rfl rfl (by decide) rfl w1_56 rfl dX11_last_13 ?_
  exact z_cVX (pc := 16) hx hb hml hown hts hlk htab hK hE hA hT lkV_RX11_176 (k539_X11_checkThere l G cy hl0 h0 h2 h1 h3 h4 h5 h6 h7 h8 h9 h10 h11 x0 hf0) [3, 2] rfl rfl 0 rfl rfl (by decide) rfl hl.1 rfl (Nat.le_of_ble_eq_true rfl) dX11_last_16 (Nat.le_of_ble_eq_true rfl) (Nat.le_of_ble_eq_true rfl)
set_option maxHeartbeats 4000000 in
set_option maxRecDepth 100000 in
theorem k541_X11_checkThere (l : Launch) (G : va_G) (cy : Nat → ClassId) (hl0 : l.stackTraces = false) (h0 h1 h2 h3 h4 h5 h6 h7 h8 h9 h10 h11 : Nat) (x0 : Int32) (hf0 : ¬ (x0 : Int32) < 0) (hf1 : ¬ (x0 : Int32) < 1) : zX l G cy yX11_checkThere cX11_checkThere 3 none 0 [.ref h0, .int x0, .int 1] [(h0, .inr (11, [.ref h2, .ref h3, .ref h4, .ref h5, .ref h6, .ref h7, .ref h8, .ref h9, .ref h10, .ref h11, .ref h1, .int (-1), .int (-1), .int (-1), .int (-1)])), (h1, .inl (cy 0, 3, .inl (kc 0)))] "java/util/NoSuchElementException" zNV := by
  refine zX.of (by decide) (Nat.le_of_ble_eq_true rfl) ?_
  intro p e s m args below meth c ls A hx hb hml hown hts hlk htab hl hK hE hA hT
  have hown : s.vm.findClass "CostBench" = some m.cls := hown
  have hl : lv_has ls 3 [(0, .ref h0), (1, .int x0), (2, .int 1)] := hl
  refine lv_iload_n (pc := 0) hx hb dX11_checkThere_0 rfl (lv_at hl 1 rfl) ?_
  refine zb_if_lt_f (pc := 1) (tgt := 9) hx hb dX11_checkThere_1 (by decide) hf0 ?_
  refine lv_iload_n (pc := 4) hx hb dX11_checkThere_4 rfl (lv_at hl 1 rfl) ?_
  refine lv_iload_n (pc := 5) hx hb dX11_checkThere_5 rfl (lv_at hl 2 rfl) ?_
  refine zb_icmp_lt_f (pc := 6) (tgt := 30) hx hb dX11_checkThere_6 (by decide) hf1 ?_
  refine lv_aload_n (pc := 9) hx hb dX11_checkThere_9 rfl (lv_at hl 0 rfl) ?_
  refine z_get (pc := 10) hx hb hts hown hK hT 0 11 10 rfl rfl (by decide) rfl w3_19 rfl dX11_checkThere_10 ?_
  refine lv_iconst (pc := 13) (v := 0) hx hb dX11_checkThere_13 (by decide) ?_
  refine lv_dup2_11 (pc := 14) hx hb dX11_checkThere_14 rfl rfl ?_
  refine z_iald (pc := 15) (v := 0) hx hb hK hT 1 0 rfl rfl (by decide) (by decide) rfl dX11_checkThere_15 ?_
  refine lv_iconst (pc := 16) (v := 1) hx hb dX11_checkThere_16 (by decide) ?_
  refine z_iadd (pc := 17) (v := 1) hx hb dX11_checkThere_17 (by decide) ?_
  refine z_iast (pc := 18) hx hb hK hT 1 0 rfl rfl (by decide) (by decide) dX11_checkThere_18 (upd (kc 0) 0 1) (fun _ _ => rfl) [(h0, .inr (11, [.ref h2, .ref h3, .ref h4, .ref h5, .ref h6, .ref h7, .ref h8, .ref h9, .ref h10, .ref h11, .ref h1, .int (-1), .int (-1), .int (-1), .int (-1)])), (h1, .inl (cy 0, 3, .inl (upd (kc 0) 0 1)))] rfl (fun H locs hT => ?_)
  exact z_throwN (pc := 19) hl0 hx hb hml hown hts hlk htab hE hT hl.1 (Nat.le_of_ble_eq_true rfl) (Nat.le_of_ble_eq_true rfl) (Nat.le_of_ble_eq_true rfl) dX11_checkThere_19 dX11_checkThere_22 dX11_checkThere_23 dX11_checkThere_26 dX11_checkThere_29
set_option maxHeartbeats 4000000 in
set_option maxRecDepth 100000 in
theorem k542_X11_last (l : Launch) (G : va_G) (cy : Nat → ClassId) (hl0 : l.stackTraces = false) (h0 h1 h2 h3 h4 h5 h6 h7 h8 h9 h10 h11 h12 h13 h14 h15 h16 h17 h18 h19 h20 h21 : Nat) (x0 : Int32) (n0 : Nat) (g0 : Nat → Nat) (hlon0 : 0 ≤ n0) (hhin0 : n0 < 6) (hf0 : ¬ (x0 : Int32) < 0) (hf1 : ¬ (x0 : Int32) < 1) : zX l G cy yX11_last cX11_last 3 (some .int) 2 [.ref h0, .int (nI n0), .int x0] [(h0, .inr (11, [.ref h1, .ref h3, .ref h4, .ref h5, .ref h6, .ref h7, .ref h8, .ref h9, .ref h10, .ref h11, .ref h2, .int (-1), .int (-1), .int (-1), .int (-1)])), (h1, .inl (cy 3, 6, .inr (.inr (.inr (.inr (fun i => some (g0 i))))))), ((g0 n0), .inr (3, [.int 1, .int 0, .int 0, .int 0, .ref h12, .ref h13, .ref h14, .ref h15, .ref h16, .ref h17, .ref h18, .ref h19, .ref h20, .ref h21])), (h2, .inl (cy 0, 3, .inl (kc 0)))] "java/util/NoSuchElementException" zNI := by
  refine zX.of (by decide) (Nat.le_of_ble_eq_true rfl) ?_
  intro p e s m args below meth c ls A hx hb hml hown hts hlk htab hl hK hE hA hT
  have hown : s.vm.findClass "CostBench" = some m.cls := hown
  have hl : lv_has ls 3 [(0, .ref h0), (1, .int (nI n0)), (2, .int x0)] := hl
  refine lv_aload_n (pc := 0) hx hb dX11_last_0 rfl (lv_at hl 0 rfl) ?_
  refine lv_iload_n (pc := 1) hx hb dX11_last_1 rfl (lv_at hl 1 rfl) ?_
  refine z_cVV (pc := 2) hx hb hml hown hts hK hA hT lkV_RX11_99 (k26_X11_checkSlot l G cy h0 h1 h3 h4 h5 h6 h7 h8 h9 h10 h11 h2 n0 (by omega) (by omega)) [0] [1, 2, 3] rfl rfl rfl rfl rfl 0 rfl rfl (by decide) rfl hl.1 rfl (Nat.le_of_ble_eq_true rfl) dX11_last_2 ⟨Nat.le_of_ble_eq_true rfl, Nat.le_of_ble_eq_true rfl⟩ (fun _ => [(h1, .inl (cy 3, 6, .inr (.inr (.inr (.inr (fun i => some (g0 i))))))), ((g0 n0), .inr (3, [.int 1, .int 0, .int 0, .int 0, .ref h12, .ref h13, .ref h14, .ref h15, .ref h16, .ref h17, .ref h18, .ref h19, .ref h20, .ref h21])), (h2, .inl (cy 0, 3, .inl (kc 0))), (h0, .inr (11, [.ref h1, .ref h3, .ref h4, .ref h5, .ref h6, .ref h7, .ref h8, .ref h9, .ref h10, .ref h11, .ref h2, .int (-1), .int (-1), .int (-1), .int (-1)]))]) (fun _ => rfl) (fun qs1 H locs hT => ?_)
  refine lv_aload_n (pc := 5) hx hb dX11_last_5 rfl (lv_at hl 0 rfl) ?_
  refine lv_iload_n (pc := 6) hx hb dX11_last_6 rfl (lv_at hl 2 rfl) ?_
  refine lv_aload_n (pc := 7) hx hb dX11_last_7 rfl (lv_at hl 0 rfl) ?_
  refine z_get (pc := 8) hx hb hts hown hK hT 3 11 0 rfl rfl (by decide) rfl w3_9 rfl dX11_last_8 ?_
  refine lv_iload_n (pc := 11) hx hb dX11_last_11 rfl (lv_at hl 1 rfl) ?_
  refine z_aaldN (pc := 12) hx hb hK hT 0 3 n0 rfl rfl rfl rfl (by omega) (by decide) rfl dX11_last_12 ?_
  refine z_get (pc := 13) hx hb hts hown hK hT 1 3 0 rfl rfl (by decide) rfl w1_56 rfl dX11_last_13 ?_
  exact z_cVX (pc := 16) hx hb hml hown hts hlk htab hK hE hA hT lkV_RX11_176 (k541_X11_checkThere l G cy hl0 h0 h2 h1 h3 h4 h5 h6 h7 h8 h9 h10 h11 x0 hf0 hf1) [3, 2] rfl rfl 0 rfl rfl (by decide) rfl hl.1 rfl (Nat.le_of_ble_eq_true rfl) dX11_last_16 (Nat.le_of_ble_eq_true rfl) (Nat.le_of_ble_eq_true rfl)
set_option maxHeartbeats 4000000 in
set_option maxRecDepth 100000 in
theorem k543_X11_least (l : Launch) (G : va_G) (cy : Nat → ClassId) (hl0 : l.stackTraces = false) (h0 h1 h2 h3 h4 h5 h6 h7 h8 h9 h10 h11 : Nat) (x0 : Int32) (hf0 : (x0 : Int32) < 0) : zX l G cy yX11_least cX11_least 3 (some .int) 2 [.ref h0, .int x0] [(h0, .inr (11, [.ref h2, .ref h3, .ref h4, .ref h5, .ref h6, .ref h7, .ref h8, .ref h9, .ref h10, .ref h11, .ref h1, .int (-1), .int (-1), .int (-1), .int (-1)])), (h1, .inl (cy 0, 3, .inl (kc 0)))] "java/util/NoSuchElementException" zNI := by
  refine zX.of (by decide) (Nat.le_of_ble_eq_true rfl) ?_
  intro p e s m args below meth c ls A hx hb hml hown hts hlk htab hl hK hE hA hT
  have hown : s.vm.findClass "CostBench" = some m.cls := hown
  have hl : lv_has ls 3 [(0, .ref h0), (1, .int x0)] := hl
  refine lv_aload_n (pc := 0) hx hb dX11_least_0 rfl (lv_at hl 0 rfl) ?_
  refine lv_iload_n (pc := 1) hx hb dX11_least_1 rfl (lv_at hl 1 rfl) ?_
  exact z_cVX (pc := 2) hx hb hml hown hts hlk htab hK hE hA hT lkV_RX11_99 (k504_X11_checkSlot l G cy hl0 h0 h1 h2 h3 h4 h5 h6 h7 h8 h9 h10 h11 x0 hf0) [0, 1] rfl rfl 0 rfl rfl (by decide) rfl hl.1 rfl (Nat.le_of_ble_eq_true rfl) dX11_least_2 (Nat.le_of_ble_eq_true rfl) (Nat.le_of_ble_eq_true rfl)
set_option maxHeartbeats 4000000 in
set_option maxRecDepth 100000 in
theorem k544_X11_least (l : Launch) (G : va_G) (cy : Nat → ClassId) (hl0 : l.stackTraces = false) (h0 h1 h2 h3 h4 h5 h6 h7 h8 h9 h10 h11 : Nat) (x0 : Int32) (hf0 : ¬ (x0 : Int32) < 0) (hf1 : ¬ (x0 : Int32) < 6) : zX l G cy yX11_least cX11_least 3 (some .int) 2 [.ref h0, .int x0] [(h0, .inr (11, [.ref h2, .ref h3, .ref h4, .ref h5, .ref h6, .ref h7, .ref h8, .ref h9, .ref h10, .ref h11, .ref h1, .int (-1), .int (-1), .int (-1), .int (-1)])), (h1, .inl (cy 0, 3, .inl (kc 0)))] "java/util/NoSuchElementException" zNI := by
  refine zX.of (by decide) (Nat.le_of_ble_eq_true rfl) ?_
  intro p e s m args below meth c ls A hx hb hml hown hts hlk htab hl hK hE hA hT
  have hown : s.vm.findClass "CostBench" = some m.cls := hown
  have hl : lv_has ls 3 [(0, .ref h0), (1, .int x0)] := hl
  refine lv_aload_n (pc := 0) hx hb dX11_least_0 rfl (lv_at hl 0 rfl) ?_
  refine lv_iload_n (pc := 1) hx hb dX11_least_1 rfl (lv_at hl 1 rfl) ?_
  exact z_cVX (pc := 2) hx hb hml hown hts hlk htab hK hE hA hT lkV_RX11_99 (k507_X11_checkSlot l G cy hl0 h0 h1 h2 h3 h4 h5 h6 h7 h8 h9 h10 h11 x0 hf0 hf1) [0, 1] rfl rfl 0 rfl rfl (by decide) rfl hl.1 rfl (Nat.le_of_ble_eq_true rfl) dX11_least_2 (Nat.le_of_ble_eq_true rfl) (Nat.le_of_ble_eq_true rfl)
set_option maxHeartbeats 4000000 in
set_option maxRecDepth 100000 in
theorem k545_X11_path (l : Launch) (G : va_G) (cy : Nat → ClassId) (hl0 : l.stackTraces = false) (h0 h1 h2 h3 h4 h5 h6 h7 h8 h9 h10 h11 : Nat) (x0 : Int32) (x1 : Int32) (hf0 : (x0 : Int32) < 0) : zX l G cy yX11_path cX11_path 5 (some .int) 2 [.ref h0, .int x0, .int x1] [(h0, .inr (11, [.ref h2, .ref h3, .ref h4, .ref h5, .ref h6, .ref h7, .ref h8, .ref h9, .ref h10, .ref h11, .ref h1, .int (-1), .int (-1), .int (-1), .int (-1)])), (h1, .inl (cy 0, 3, .inl (kc 0)))] "java/util/NoSuchElementException" zNI := by
  refine zX.of (by decide) (Nat.le_of_ble_eq_true rfl) ?_
  intro p e s m args below meth c ls A hx hb hml hown hts hlk htab hl hK hE hA hT
  have hown : s.vm.findClass "CostBench" = some m.cls := hown
  have hl : lv_has ls 5 [(0, .ref h0), (1, .int x0), (2, .int x1)] := hl
  refine lv_aload_n (pc := 0) hx hb dX11_path_0 rfl (lv_at hl 0 rfl) ?_
  refine lv_iload_n (pc := 1) hx hb dX11_path_1 rfl (lv_at hl 1 rfl) ?_
  exact z_cVX (pc := 2) hx hb hml hown hts hlk htab hK hE hA hT lkV_RX11_99 (k504_X11_checkSlot l G cy hl0 h0 h1 h2 h3 h4 h5 h6 h7 h8 h9 h10 h11 x0 hf0) [0, 1] rfl rfl 0 rfl rfl (by decide) rfl hl.1 rfl (Nat.le_of_ble_eq_true rfl) dX11_path_2 (Nat.le_of_ble_eq_true rfl) (Nat.le_of_ble_eq_true rfl)
set_option maxHeartbeats 4000000 in
set_option maxRecDepth 100000 in
theorem k546_X11_path (l : Launch) (G : va_G) (cy : Nat → ClassId) (hl0 : l.stackTraces = false) (h0 h1 h2 h3 h4 h5 h6 h7 h8 h9 h10 h11 : Nat) (x0 : Int32) (x1 : Int32) (hf0 : ¬ (x0 : Int32) < 0) (hf1 : ¬ (x0 : Int32) < 6) : zX l G cy yX11_path cX11_path 5 (some .int) 2 [.ref h0, .int x0, .int x1] [(h0, .inr (11, [.ref h2, .ref h3, .ref h4, .ref h5, .ref h6, .ref h7, .ref h8, .ref h9, .ref h10, .ref h11, .ref h1, .int (-1), .int (-1), .int (-1), .int (-1)])), (h1, .inl (cy 0, 3, .inl (kc 0)))] "java/util/NoSuchElementException" zNI := by
  refine zX.of (by decide) (Nat.le_of_ble_eq_true rfl) ?_
  intro p e s m args below meth c ls A hx hb hml hown hts hlk htab hl hK hE hA hT
  have hown : s.vm.findClass "CostBench" = some m.cls := hown
  have hl : lv_has ls 5 [(0, .ref h0), (1, .int x0), (2, .int x1)] := hl
  refine lv_aload_n (pc := 0) hx hb dX11_path_0 rfl (lv_at hl 0 rfl) ?_
  refine lv_iload_n (pc := 1) hx hb dX11_path_1 rfl (lv_at hl 1 rfl) ?_
  exact z_cVX (pc := 2) hx hb hml hown hts hlk htab hK hE hA hT lkV_RX11_99 (k507_X11_checkSlot l G cy hl0 h0 h1 h2 h3 h4 h5 h6 h7 h8 h9 h10 h11 x0 hf0 hf1) [0, 1] rfl rfl 0 rfl rfl (by decide) rfl hl.1 rfl (Nat.le_of_ble_eq_true rfl) dX11_path_2 (Nat.le_of_ble_eq_true rfl) (Nat.le_of_ble_eq_true rfl)
set_option maxHeartbeats 4000000 in
set_option maxRecDepth 100000 in
theorem k547_X11_word (l : Launch) (G : va_G) (cy : Nat → ClassId) (hl0 : l.stackTraces = false) (h0 h1 h2 h3 h4 h5 h6 h7 h8 h9 h10 h11 : Nat) (x0 : Int32) (x1 : Int32) (hf0 : (x0 : Int32) < 0) : zX l G cy yX11_word cX11_word 4 (some .int) 2 [.ref h0, .int x0, .int x1] [(h0, .inr (11, [.ref h2, .ref h3, .ref h4, .ref h5, .ref h6, .ref h7, .ref h8, .ref h9, .ref h10, .ref h11, .ref h1, .int (-1), .int (-1), .int (-1), .int (-1)])), (h1, .inl (cy 0, 3, .inl (kc 0)))] "java/util/NoSuchElementException" zNI := by
  refine zX.of (by decide) (Nat.le_of_ble_eq_true rfl) ?_
  intro p e s m args below meth c ls A hx hb hml hown hts hlk htab hl hK hE hA hT
  have hown : s.vm.findClass "CostBench" = some m.cls := hown
  have hl : lv_has ls 4 [(0, .ref h0), (1, .int x0), (2, .int x1)] := hl
  refine lv_aload_n (pc := 0) hx hb dX11_word_0 rfl (lv_at hl 0 rfl) ?_
  refine lv_iload_n (pc := 1) hx hb dX11_word_1 rfl (lv_at hl 1 rfl) ?_
  exact z_cVX (pc := 2) hx hb hml hown hts hlk htab hK hE hA hT lkV_RX11_99 (k504_X11_checkSlot l G cy hl0 h0 h1 h2 h3 h4 h5 h6 h7 h8 h9 h10 h11 x0 hf0) [0, 1] rfl rfl 0 rfl rfl (by decide) rfl hl.1 rfl (Nat.le_of_ble_eq_true rfl) dX11_word_2 (Nat.le_of_ble_eq_true rfl) (Nat.le_of_ble_eq_true rfl)
set_option maxHeartbeats 4000000 in
set_option maxRecDepth 100000 in
theorem k548_X11_word (l : Launch) (G : va_G) (cy : Nat → ClassId) (hl0 : l.stackTraces = false) (h0 h1 h2 h3 h4 h5 h6 h7 h8 h9 h10 h11 : Nat) (x0 : Int32) (x1 : Int32) (hf0 : ¬ (x0 : Int32) < 0) (hf1 : ¬ (x0 : Int32) < 6) : zX l G cy yX11_word cX11_word 4 (some .int) 2 [.ref h0, .int x0, .int x1] [(h0, .inr (11, [.ref h2, .ref h3, .ref h4, .ref h5, .ref h6, .ref h7, .ref h8, .ref h9, .ref h10, .ref h11, .ref h1, .int (-1), .int (-1), .int (-1), .int (-1)])), (h1, .inl (cy 0, 3, .inl (kc 0)))] "java/util/NoSuchElementException" zNI := by
  refine zX.of (by decide) (Nat.le_of_ble_eq_true rfl) ?_
  intro p e s m args below meth c ls A hx hb hml hown hts hlk htab hl hK hE hA hT
  have hown : s.vm.findClass "CostBench" = some m.cls := hown
  have hl : lv_has ls 4 [(0, .ref h0), (1, .int x0), (2, .int x1)] := hl
  refine lv_aload_n (pc := 0) hx hb dX11_word_0 rfl (lv_at hl 0 rfl) ?_
  refine lv_iload_n (pc := 1) hx hb dX11_word_1 rfl (lv_at hl 1 rfl) ?_
  exact z_cVX (pc := 2) hx hb hml hown hts hlk htab hK hE hA hT lkV_RX11_99 (k507_X11_checkSlot l G cy hl0 h0 h1 h2 h3 h4 h5 h6 h7 h8 h9 h10 h11 x0 hf0 hf1) [0, 1] rfl rfl 0 rfl rfl (by decide) rfl hl.1 rfl (Nat.le_of_ble_eq_true rfl) dX11_word_2 (Nat.le_of_ble_eq_true rfl) (Nat.le_of_ble_eq_true rfl)
set_option maxHeartbeats 4000000 in
set_option maxRecDepth 100000 in
theorem k549_X11_checkValue (l : Launch) (G : va_G) (cy : Nat → ClassId) (hl0 : l.stackTraces = false) (h0 h1 h2 h3 h4 h5 h6 h7 h8 h9 h10 h11 : Nat) (x0 : Int32) (hf0 : (x0 : Int32) < 0) : zX l G cy yX11_checkValue cX11_checkValue 4 none 0 [.ref h0, .int x0, .int 0, .int 0] [(h0, .inr (11, [.ref h2, .ref h3, .ref h4, .ref h5, .ref h6, .ref h7, .ref h8, .ref h9, .ref h10, .ref h11, .ref h1, .int (-1), .int (-1), .int (-1), .int (-1)])), (h1, .inl (cy 0, 3, .inl (kc 0)))] "java/lang/IllegalArgumentException" zNV := by
  refine zX.of (by decide) (Nat.le_of_ble_eq_true rfl) ?_
  intro p e s m args below meth c ls A hx hb hml hown hts hlk htab hl hK hE hA hT
  have hown : s.vm.findClass "CostBench" = some m.cls := hown
  have hl : lv_has ls 4 [(0, .ref h0), (1, .int x0), (2, .int 0), (3, .int 0)] := hl
  refine lv_iload_n (pc := 0) hx hb dX11_checkValue_0 rfl (lv_at hl 1 rfl) ?_
  refine lv_iload_n (pc := 1) hx hb dX11_checkValue_1 rfl (lv_at hl 2 rfl) ?_
  refine zb_icmp_lt_t (pc := 2) (tgt := 10) hx hb dX11_checkValue_2 (by decide) hf0 ?_
  refine lv_aload_n (pc := 10) hx hb dX11_checkValue_10 rfl (lv_at hl 0 rfl) ?_
  refine z_get (pc := 11) hx hb hts hown hK hT 0 11 10 rfl rfl (by decide) rfl w3_19 rfl dX11_checkValue_11 ?_
  refine lv_iconst (pc := 14) (v := 1) hx hb dX11_checkValue_14 (by decide) ?_
  refine lv_dup2_11 (pc := 15) hx hb dX11_checkValue_15 rfl rfl ?_
  refine z_iald (pc := 16) (v := 0) hx hb hK hT 1 1 rfl rfl (by decide) (by decide) rfl dX11_checkValue_16 ?_
  refine lv_iconst (pc := 17) (v := 1) hx hb dX11_checkValue_17 (by decide) ?_
  refine z_iadd (pc := 18) (v := 1) hx hb dX11_checkValue_18 (by decide) ?_
  refine z_iast (pc := 19) hx hb hK hT 1 1 rfl rfl (by decide) (by decide) dX11_checkValue_19 (upd (kc 0) 1 1) (fun _ _ => rfl) [(h0, .inr (11, [.ref h2, .ref h3, .ref h4, .ref h5, .ref h6, .ref h7, .ref h8, .ref h9, .ref h10, .ref h11, .ref h1, .int (-1), .int (-1), .int (-1), .int (-1)])), (h1, .inl (cy 0, 3, .inl (upd (kc 0) 1 1)))] rfl (fun H locs hT => ?_)
  exact z_throwA (pc := 20) hl0 hx hb hml hown hts hlk htab hE hT hl.1 (Nat.le_of_ble_eq_true rfl) (Nat.le_of_ble_eq_true rfl) (Nat.le_of_ble_eq_true rfl) dX11_checkValue_20 dX11_checkValue_23 dX11_checkValue_24 dX11_checkValue_27 dX11_checkValue_30
set_option maxHeartbeats 4000000 in
set_option maxRecDepth 100000 in
theorem k550_X11_word (l : Launch) (G : va_G) (cy : Nat → ClassId) (hl0 : l.stackTraces = false) (h0 h1 h2 h3 h4 h5 h6 h7 h8 h9 h10 h11 h12 : Nat) (x0 : Int32) (n0 : Nat) (hlon0 : 0 ≤ n0) (hhin0 : n0 < 6) (hf0 : (x0 : Int32) < 0) : zX l G cy yX11_word cX11_word 4 (some .int) 2 [.ref h0, .int (nI n0), .int x0] [(h0, .inr (11, [.ref h3, .ref h4, .ref h1, .ref h5, .ref h6, .ref h7, .ref h8, .ref h9, .ref h10, .ref h11, .ref h2, .int (-1), .int (-1), .int (-1), .int (-1)])), (h1, .inr (9, [.int 0, .ref h12, .int 0, .int 0, .int 0, .int 0])), (h2, .inl (cy 0, 3, .inl (kc 0)))] "java/lang/IllegalArgumentException" zNI := by
  refine zX.of (by decide) (Nat.le_of_ble_eq_true rfl) ?_
  intro p e s m args below meth c ls A hx hb hml hown hts hlk htab hl hK hE hA hT
  have hown : s.vm.findClass "CostBench" = some m.cls := hown
  have hl : lv_has ls 4 [(0, .ref h0), (1, .int (nI n0)), (2, .int x0)] := hl
  refine lv_aload_n (pc := 0) hx hb dX11_word_0 rfl (lv_at hl 0 rfl) ?_
  refine lv_iload_n (pc := 1) hx hb dX11_word_1 rfl (lv_at hl 1 rfl) ?_
  refine z_cVV (pc := 2) hx hb hml hown hts hK hA hT lkV_RX11_99 (k26_X11_checkSlot l G cy h0 h3 h4 h1 h5 h6 h7 h8 h9 h10 h11 h2 n0 (by omega) (by omega)) [0] [1, 2] rfl rfl rfl rfl rfl 0 rfl rfl (by decide) rfl hl.1 rfl (Nat.le_of_ble_eq_true rfl) dX11_word_2 ⟨Nat.le_of_ble_eq_true rfl, Nat.le_of_ble_eq_true rfl⟩ (fun _ => [(h1, .inr (9, [.int 0, .ref h12, .int 0, .int 0, .int 0, .int 0])), (h2, .inl (cy 0, 3, .inl (kc 0))), (h0, .inr (11, [.ref h3, .ref h4, .ref h1, .ref h5, .ref h6, .ref h7, .ref h8, .ref h9, .ref h10, .ref h11, .ref h2, .int (-1), .int (-1), .int (-1), .int (-1)]))]) (fun _ => rfl) (fun qs1 H locs hT => ?_)
  refine lv_aload_n (pc := 5) hx hb dX11_word_5 rfl (lv_at hl 0 rfl) ?_
  refine lv_iload_n (pc := 6) hx hb dX11_word_6 rfl (lv_at hl 2 rfl) ?_
  refine lv_iconst (pc := 7) (v := 0) hx hb dX11_word_7 (by decide) ?_
  refine lv_aload_n (pc := 8) hx hb dX11_word_8 rfl (lv_at hl 0 rfl) ?_
  refine z_get (pc := 9) hx hb hts hown hK hT 2 11 2 rfl rfl (by decide) rfl w3_11 rfl dX11_word_9 ?_
  refine z_get (pc := 12) hx hb hts hown hK hT 0 9 0 rfl rfl (by decide) rfl w1_169 rfl dX11_word_12 ?_
  exact z_cVX (pc := 15) hx hb hml hown hts hlk htab hK hE hA hT lkV_RX11_106 (k549_X11_checkValue l G cy hl0 h0 h2 h3 h4 h1 h5 h6 h7 h8 h9 h10 h11 x0 hf0) [2, 1] rfl rfl 0 rfl rfl (by decide) rfl hl.1 rfl (Nat.le_of_ble_eq_true rfl) dX11_word_15 (Nat.le_of_ble_eq_true rfl) (Nat.le_of_ble_eq_true rfl)
set_option maxHeartbeats 4000000 in
set_option maxRecDepth 100000 in
theorem k551_X11_checkValue (l : Launch) (G : va_G) (cy : Nat → ClassId) (hl0 : l.stackTraces = false) (h0 h1 h2 h3 h4 h5 h6 h7 h8 h9 h10 h11 : Nat) (x0 : Int32) (hf0 : ¬ (x0 : Int32) < 0) (hf1 : (0 : Int32) < x0) : zX l G cy yX11_checkValue cX11_checkValue 4 none 0 [.ref h0, .int x0, .int 0, .int 0] [(h0, .inr (11, [.ref h2, .ref h3, .ref h4, .ref h5, .ref h6, .ref h7, .ref h8, .ref h9, .ref h10, .ref h11, .ref h1, .int (-1), .int (-1), .int (-1), .int (-1)])), (h1, .inl (cy 0, 3, .inl (kc 0)))] "java/lang/IllegalArgumentException" zNV := by
  refine zX.of (by decide) (Nat.le_of_ble_eq_true rfl) ?_
  intro p e s m args below meth c ls A hx hb hml hown hts hlk htab hl hK hE hA hT
  have hown : s.vm.findClass "CostBench" = some m.cls := hown
  have hl : lv_has ls 4 [(0, .ref h0), (1, .int x0), (2, .int 0), (3, .int 0)] := hl
  refine lv_iload_n (pc := 0) hx hb dX11_checkValue_0 rfl (lv_at hl 1 rfl) ?_
  refine lv_iload_n (pc := 1) hx hb dX11_checkValue_1 rfl (lv_at hl 2 rfl) ?_
  refine zb_icmp_lt_f (pc := 2) (tgt := 10) hx hb dX11_checkValue_2 (by decide) hf0 ?_
  refine lv_iload_n (pc := 5) hx hb dX11_checkValue_5 rfl (lv_at hl 1 rfl) ?_
  refine lv_iload_n (pc := 6) hx hb dX11_checkValue_6 rfl (lv_at hl 3 rfl) ?_
  refine zb_icmp_le_f (pc := 7) (tgt := 31) hx hb dX11_checkValue_7 (by decide) (znle_of_lt hf1) ?_
  refine lv_aload_n (pc := 10) hx hb dX11_checkValue_10 rfl (lv_at hl 0 rfl) ?_
  refine z_get (pc := 11) hx hb hts hown hK hT 0 11 10 rfl rfl (by decide) rfl w3_19 rfl dX11_checkValue_11 ?_
  refine lv_iconst (pc := 14) (v := 1) hx hb dX11_checkValue_14 (by decide) ?_
  refine lv_dup2_11 (pc := 15) hx hb dX11_checkValue_15 rfl rfl ?_
  refine z_iald (pc := 16) (v := 0) hx hb hK hT 1 1 rfl rfl (by decide) (by decide) rfl dX11_checkValue_16 ?_
  refine lv_iconst (pc := 17) (v := 1) hx hb dX11_checkValue_17 (by decide) ?_
  refine z_iadd (pc := 18) (v := 1) hx hb dX11_checkValue_18 (by decide) ?_
  refine z_iast (pc := 19) hx hb hK hT 1 1 rfl rfl (by decide) (by decide) dX11_checkValue_19 (upd (kc 0) 1 1) (fun _ _ => rfl) [(h0, .inr (11, [.ref h2, .ref h3, .ref h4, .ref h5, .ref h6, .ref h7, .ref h8, .ref h9, .ref h10, .ref h11, .ref h1, .int (-1), .int (-1), .int (-1), .int (-1)])), (h1, .inl (cy 0, 3, .inl (upd (kc 0) 1 1)))] rfl (fun H locs hT => ?_)
  exact z_throwA (pc := 20) hl0 hx hb hml hown hts hlk htab hE hT hl.1 (Nat.le_of_ble_eq_true rfl) (Nat.le_of_ble_eq_true rfl) (Nat.le_of_ble_eq_true rfl) dX11_checkValue_20 dX11_checkValue_23 dX11_checkValue_24 dX11_checkValue_27 dX11_checkValue_30
set_option maxHeartbeats 4000000 in
set_option maxRecDepth 100000 in
theorem k552_X11_word (l : Launch) (G : va_G) (cy : Nat → ClassId) (hl0 : l.stackTraces = false) (h0 h1 h2 h3 h4 h5 h6 h7 h8 h9 h10 h11 h12 : Nat) (x0 : Int32) (n0 : Nat) (hlon0 : 0 ≤ n0) (hhin0 : n0 < 6) (hf0 : ¬ (x0 : Int32) < 0) (hf1 : (0 : Int32) < x0) : zX l G cy yX11_word cX11_word 4 (some .int) 2 [.ref h0, .int (nI n0), .int x0] [(h0, .inr (11, [.ref h3, .ref h4, .ref h1, .ref h5, .ref h6, .ref h7, .ref h8, .ref h9, .ref h10, .ref h11, .ref h2, .int (-1), .int (-1), .int (-1), .int (-1)])), (h1, .inr (9, [.int 0, .ref h12, .int 0, .int 0, .int 0, .int 0])), (h2, .inl (cy 0, 3, .inl (kc 0)))] "java/lang/IllegalArgumentException" zNI := by
  refine zX.of (by decide) (Nat.le_of_ble_eq_true rfl) ?_
  intro p e s m args below meth c ls A hx hb hml hown hts hlk htab hl hK hE hA hT
  have hown : s.vm.findClass "CostBench" = some m.cls := hown
  have hl : lv_has ls 4 [(0, .ref h0), (1, .int (nI n0)), (2, .int x0)] := hl
  refine lv_aload_n (pc := 0) hx hb dX11_word_0 rfl (lv_at hl 0 rfl) ?_
  refine lv_iload_n (pc := 1) hx hb dX11_word_1 rfl (lv_at hl 1 rfl) ?_
  refine z_cVV (pc := 2) hx hb hml hown hts hK hA hT lkV_RX11_99 (k26_X11_checkSlot l G cy h0 h3 h4 h1 h5 h6 h7 h8 h9 h10 h11 h2 n0 (by omega) (by omega)) [0] [1, 2] rfl rfl rfl rfl rfl 0 rfl rfl (by decide) rfl hl.1 rfl (Nat.le_of_ble_eq_true rfl) dX11_word_2 ⟨Nat.le_of_ble_eq_true rfl, Nat.le_of_ble_eq_true rfl⟩ (fun _ => [(h1, .inr (9, [.int 0, .ref h12, .int 0, .int 0, .int 0, .int 0])), (h2, .inl (cy 0, 3, .inl (kc 0))), (h0, .inr (11, [.ref h3, .ref h4, .ref h1, .ref h5, .ref h6, .ref h7, .ref h8, .ref h9, .ref h10, .ref h11, .ref h2, .int (-1), .int (-1), .int (-1), .int (-1)]))]) (fun _ => rfl) (fun qs1 H locs hT => ?_)
  refine lv_aload_n (pc := 5) hx hb dX11_word_5 rfl (lv_at hl 0 rfl) ?_
  refine lv_iload_n (pc := 6) hx hb dX11_word_6 rfl (lv_at hl 2 rfl) ?_
  refine lv_iconst (pc := 7) (v := 0) hx hb dX11_word_7 (by decide) ?_
  refine lv_aload_n (pc := 8) hx hb dX11_word_8 rfl (lv_at hl 0 rfl) ?_
  refine z_get (pc := 9) hx hb hts hown hK hT 2 11 2 rfl rfl (by decide) rfl w3_11 rfl dX11_word_9 ?_
  refine z_get (pc := 12) hx hb hts hown hK hT 0 9 0 rfl rfl (by decide) rfl w1_169 rfl dX11_word_12 ?_
  exact z_cVX (pc := 15) hx hb hml hown hts hlk htab hK hE hA hT lkV_RX11_106 (k551_X11_checkValue l G cy hl0 h0 h2 h3 h4 h1 h5 h6 h7 h8 h9 h10 h11 x0 hf0 hf1) [2, 1] rfl rfl 0 rfl rfl (by decide) rfl hl.1 rfl (Nat.le_of_ble_eq_true rfl) dX11_word_15 (Nat.le_of_ble_eq_true rfl) (Nat.le_of_ble_eq_true rfl)
set_option maxHeartbeats 4000000 in
set_option maxRecDepth 100000 in
theorem k553_X11_couple (l : Launch) (G : va_G) (cy : Nat → ClassId) (hl0 : l.stackTraces = false) (h0 h1 h2 h3 h4 h5 h6 h7 h8 h9 h10 h11 : Nat) (x0 : Int32) (x1 : Int32) (hf0 : (x0 : Int32) < 0) : zX l G cy yX11_couple cX11_couple 4 (some .int) 2 [.ref h0, .int x0, .int x1] [(h0, .inr (11, [.ref h2, .ref h3, .ref h4, .ref h5, .ref h6, .ref h7, .ref h8, .ref h9, .ref h10, .ref h11, .ref h1, .int (-1), .int (-1), .int (-1), .int (-1)])), (h1, .inl (cy 0, 3, .inl (kc 0)))] "java/util/NoSuchElementException" zNI := by
  refine zX.of (by decide) (Nat.le_of_ble_eq_true rfl) ?_
  intro p e s m args below meth c ls A hx hb hml hown hts hlk htab hl hK hE hA hT
  have hown : s.vm.findClass "CostBench" = some m.cls := hown
  have hl : lv_has ls 4 [(0, .ref h0), (1, .int x0), (2, .int x1)] := hl
  refine lv_aload_n (pc := 0) hx hb dX11_couple_0 rfl (lv_at hl 0 rfl) ?_
  refine lv_iload_n (pc := 1) hx hb dX11_couple_1 rfl (lv_at hl 1 rfl) ?_
  exact z_cVX (pc := 2) hx hb hml hown hts hlk htab hK hE hA hT lkV_RX11_99 (k504_X11_checkSlot l G cy hl0 h0 h1 h2 h3 h4 h5 h6 h7 h8 h9 h10 h11 x0 hf0) [0, 1] rfl rfl 0 rfl rfl (by decide) rfl hl.1 rfl (Nat.le_of_ble_eq_true rfl) dX11_couple_2 (Nat.le_of_ble_eq_true rfl) (Nat.le_of_ble_eq_true rfl)
set_option maxHeartbeats 4000000 in
set_option maxRecDepth 100000 in
theorem k554_X11_couple (l : Launch) (G : va_G) (cy : Nat → ClassId) (hl0 : l.stackTraces = false) (h0 h1 h2 h3 h4 h5 h6 h7 h8 h9 h10 h11 : Nat) (x0 : Int32) (x1 : Int32) (hf0 : ¬ (x0 : Int32) < 0) (hf1 : ¬ (x0 : Int32) < 6) : zX l G cy yX11_couple cX11_couple 4 (some .int) 2 [.ref h0, .int x0, .int x1] [(h0, .inr (11, [.ref h2, .ref h3, .ref h4, .ref h5, .ref h6, .ref h7, .ref h8, .ref h9, .ref h10, .ref h11, .ref h1, .int (-1), .int (-1), .int (-1), .int (-1)])), (h1, .inl (cy 0, 3, .inl (kc 0)))] "java/util/NoSuchElementException" zNI := by
  refine zX.of (by decide) (Nat.le_of_ble_eq_true rfl) ?_
  intro p e s m args below meth c ls A hx hb hml hown hts hlk htab hl hK hE hA hT
  have hown : s.vm.findClass "CostBench" = some m.cls := hown
  have hl : lv_has ls 4 [(0, .ref h0), (1, .int x0), (2, .int x1)] := hl
  refine lv_aload_n (pc := 0) hx hb dX11_couple_0 rfl (lv_at hl 0 rfl) ?_
  refine lv_iload_n (pc := 1) hx hb dX11_couple_1 rfl (lv_at hl 1 rfl) ?_
  exact z_cVX (pc := 2) hx hb hml hown hts hlk htab hK hE hA hT lkV_RX11_99 (k507_X11_checkSlot l G cy hl0 h0 h1 h2 h3 h4 h5 h6 h7 h8 h9 h10 h11 x0 hf0 hf1) [0, 1] rfl rfl 0 rfl rfl (by decide) rfl hl.1 rfl (Nat.le_of_ble_eq_true rfl) dX11_couple_2 (Nat.le_of_ble_eq_true rfl) (Nat.le_of_ble_eq_true rfl)
set_option maxHeartbeats 4000000 in
set_option maxRecDepth 100000 in
theorem k555_X11_couple (l : Launch) (G : va_G) (cy : Nat → ClassId) (hl0 : l.stackTraces = false) (h0 h1 h2 h3 h4 h5 h6 h7 h8 h9 h10 h11 h12 : Nat) (x0 : Int32) (n0 : Nat) (hlon0 : 0 ≤ n0) (hhin0 : n0 < 6) (hf0 : (x0 : Int32) < 0) : zX l G cy yX11_couple cX11_couple 4 (some .int) 2 [.ref h0, .int (nI n0), .int x0] [(h0, .inr (11, [.ref h3, .ref h4, .ref h1, .ref h5, .ref h6, .ref h7, .ref h8, .ref h9, .ref h10, .ref h11, .ref h2, .int (-1), .int (-1), .int (-1), .int (-1)])), (h1, .inr (9, [.int 0, .ref h12, .int 0, .int 0, .int 0, .int 0])), (h2, .inl (cy 0, 3, .inl (kc 0)))] "java/lang/IllegalArgumentException" zNI := by
  refine zX.of (by decide) (Nat.le_of_ble_eq_true rfl) ?_
  intro p e s m args below meth c ls A hx hb hml hown hts hlk htab hl hK hE hA hT
  have hown : s.vm.findClass "CostBench" = some m.cls := hown
  have hl : lv_has ls 4 [(0, .ref h0), (1, .int (nI n0)), (2, .int x0)] := hl
  refine lv_aload_n (pc := 0) hx hb dX11_couple_0 rfl (lv_at hl 0 rfl) ?_
  refine lv_iload_n (pc := 1) hx hb dX11_couple_1 rfl (lv_at hl 1 rfl) ?_
  refine z_cVV (pc := 2) hx hb hml hown hts hK hA hT lkV_RX11_99 (k26_X11_checkSlot l G cy h0 h3 h4 h1 h5 h6 h7 h8 h9 h10 h11 h2 n0 (by omega) (by omega)) [0] [1, 2] rfl rfl rfl rfl rfl 0 rfl rfl (by decide) rfl hl.1 rfl (Nat.le_of_ble_eq_true rfl) dX11_couple_2 ⟨Nat.le_of_ble_eq_true rfl, Nat.le_of_ble_eq_true rfl⟩ (fun _ => [(h1, .inr (9, [.int 0, .ref h12, .int 0, .int 0, .int 0, .int 0])), (h2, .inl (cy 0, 3, .inl (kc 0))), (h0, .inr (11, [.ref h3, .ref h4, .ref h1, .ref h5, .ref h6, .ref h7, .ref h8, .ref h9, .ref h10, .ref h11, .ref h2, .int (-1), .int (-1), .int (-1), .int (-1)]))]) (fun _ => rfl) (fun qs1 H locs hT => ?_)
  refine lv_aload_n (pc := 5) hx hb dX11_couple_5 rfl (lv_at hl 0 rfl) ?_
  refine lv_iload_n (pc := 6) hx hb dX11_couple_6 rfl (lv_at hl 2 rfl) ?_
  refine lv_iconst (pc := 7) (v := 0) hx hb dX11_couple_7 (by decide) ?_
  refine lv_aload_n (pc := 8) hx hb dX11_couple_8 rfl (lv_at hl 0 rfl) ?_
  refine z_get (pc := 9) hx hb hts hown hK hT 2 11 2 rfl rfl (by decide) rfl w3_11 rfl dX11_couple_9 ?_
  refine z_get (pc := 12) hx hb hts hown hK hT 0 9 0 rfl rfl (by decide) rfl w1_169 rfl dX11_couple_12 ?_
  exact z_cVX (pc := 15) hx hb hml hown hts hlk htab hK hE hA hT lkV_RX11_106 (k549_X11_checkValue l G cy hl0 h0 h2 h3 h4 h1 h5 h6 h7 h8 h9 h10 h11 x0 hf0) [2, 1] rfl rfl 0 rfl rfl (by decide) rfl hl.1 rfl (Nat.le_of_ble_eq_true rfl) dX11_couple_15 (Nat.le_of_ble_eq_true rfl) (Nat.le_of_ble_eq_true rfl)
set_option maxHeartbeats 4000000 in
set_option maxRecDepth 100000 in
theorem k556_X11_couple (l : Launch) (G : va_G) (cy : Nat → ClassId) (hl0 : l.stackTraces = false) (h0 h1 h2 h3 h4 h5 h6 h7 h8 h9 h10 h11 h12 : Nat) (x0 : Int32) (n0 : Nat) (hlon0 : 0 ≤ n0) (hhin0 : n0 < 6) (hf0 : ¬ (x0 : Int32) < 0) (hf1 : (0 : Int32) < x0) : zX l G cy yX11_couple cX11_couple 4 (some .int) 2 [.ref h0, .int (nI n0), .int x0] [(h0, .inr (11, [.ref h3, .ref h4, .ref h1, .ref h5, .ref h6, .ref h7, .ref h8, .ref h9, .ref h10, .ref h11, .ref h2, .int (-1), .int (-1), .int (-1), .int (-1)])), (h1, .inr (9, [.int 0, .ref h12, .int 0, .int 0, .int 0, .int 0])), (h2, .inl (cy 0, 3, .inl (kc 0)))] "java/lang/IllegalArgumentException" zNI := by
  refine zX.of (by decide) (Nat.le_of_ble_eq_true rfl) ?_
  intro p e s m args below meth c ls A hx hb hml hown hts hlk htab hl hK hE hA hT
  have hown : s.vm.findClass "CostBench" = some m.cls := hown
  have hl : lv_has ls 4 [(0, .ref h0), (1, .int (nI n0)), (2, .int x0)] := hl
  refine lv_aload_n (pc := 0) hx hb dX11_couple_0 rfl (lv_at hl 0 rfl) ?_
  refine lv_iload_n (pc := 1) hx hb dX11_couple_1 rfl (lv_at hl 1 rfl) ?_
  refine z_cVV (pc := 2) hx hb hml hown hts hK hA hT lkV_RX11_99 (k26_X11_checkSlot l G cy h0 h3 h4 h1 h5 h6 h7 h8 h9 h10 h11 h2 n0 (by omega) (by omega)) [0] [1, 2] rfl rfl rfl rfl rfl 0 rfl rfl (by decide) rfl hl.1 rfl (Nat.le_of_ble_eq_true rfl) dX11_couple_2 ⟨Nat.le_of_ble_eq_true rfl, Nat.le_of_ble_eq_true rfl⟩ (fun _ => [(h1, .inr (9, [.int 0, .ref h12, .int 0, .int 0, .int 0, .int 0])), (h2, .inl (cy 0, 3, .inl (kc 0))), (h0, .inr (11, [.ref h3, .ref h4, .ref h1, .ref h5, .ref h6, .ref h7, .ref h8, .ref h9, .ref h10, .ref h11, .ref h2, .int (-1), .int (-1), .int (-1), .int (-1)]))]) (fun _ => rfl) (fun qs1 H locs hT => ?_)
  refine lv_aload_n (pc := 5) hx hb dX11_couple_5 rfl (lv_at hl 0 rfl) ?_
  refine lv_iload_n (pc := 6) hx hb dX11_couple_6 rfl (lv_at hl 2 rfl) ?_
  refine lv_iconst (pc := 7) (v := 0) hx hb dX11_couple_7 (by decide) ?_
  refine lv_aload_n (pc := 8) hx hb dX11_couple_8 rfl (lv_at hl 0 rfl) ?_
  refine z_get (pc := 9) hx hb hts hown hK hT 2 11 2 rfl rfl (by decide) rfl w3_11 rfl dX11_couple_9 ?_
  refine z_get (pc := 12) hx hb hts hown hK hT 0 9 0 rfl rfl (by decide) rfl w1_169 rfl dX11_couple_12 ?_
  exact z_cVX (pc := 15) hx hb hml hown hts hlk htab hK hE hA hT lkV_RX11_106 (k551_X11_checkValue l G cy hl0 h0 h2 h3 h4 h1 h5 h6 h7 h8 h9 h10 h11 x0 hf0 hf1) [2, 1] rfl rfl 0 rfl rfl (by decide) rfl hl.1 rfl (Nat.le_of_ble_eq_true rfl) dX11_couple_15 (Nat.le_of_ble_eq_true rfl) (Nat.le_of_ble_eq_true rfl)
set_option maxHeartbeats 4000000 in
set_option maxRecDepth 100000 in
theorem k557_X11_text (l : Launch) (G : va_G) (cy : Nat → ClassId) (hl0 : l.stackTraces = false) (h0 h1 h2 h3 h4 h5 h6 h7 h8 h9 h10 h11 : Nat) (x0 : Int32) (x1 : Int32) (hf0 : (x0 : Int32) < 0) : zX l G cy yX11_text cX11_text 4 (some .int) 2 [.ref h0, .int x0, .int x1] [(h0, .inr (11, [.ref h2, .ref h3, .ref h4, .ref h5, .ref h6, .ref h7, .ref h8, .ref h9, .ref h10, .ref h11, .ref h1, .int (-1), .int (-1), .int (-1), .int (-1)])), (h1, .inl (cy 0, 3, .inl (kc 0)))] "java/util/NoSuchElementException" zNI := by
  refine zX.of (by decide) (Nat.le_of_ble_eq_true rfl) ?_
  intro p e s m args below meth c ls A hx hb hml hown hts hlk htab hl hK hE hA hT
  have hown : s.vm.findClass "CostBench" = some m.cls := hown
  have hl : lv_has ls 4 [(0, .ref h0), (1, .int x0), (2, .int x1)] := hl
  refine lv_aload_n (pc := 0) hx hb dX11_text_0 rfl (lv_at hl 0 rfl) ?_
  refine lv_iload_n (pc := 1) hx hb dX11_text_1 rfl (lv_at hl 1 rfl) ?_
  exact z_cVX (pc := 2) hx hb hml hown hts hlk htab hK hE hA hT lkV_RX11_99 (k504_X11_checkSlot l G cy hl0 h0 h1 h2 h3 h4 h5 h6 h7 h8 h9 h10 h11 x0 hf0) [0, 1] rfl rfl 0 rfl rfl (by decide) rfl hl.1 rfl (Nat.le_of_ble_eq_true rfl) dX11_text_2 (Nat.le_of_ble_eq_true rfl) (Nat.le_of_ble_eq_true rfl)
set_option maxHeartbeats 4000000 in
set_option maxRecDepth 100000 in
theorem k558_X11_text (l : Launch) (G : va_G) (cy : Nat → ClassId) (hl0 : l.stackTraces = false) (h0 h1 h2 h3 h4 h5 h6 h7 h8 h9 h10 h11 : Nat) (x0 : Int32) (x1 : Int32) (hf0 : ¬ (x0 : Int32) < 0) (hf1 : ¬ (x0 : Int32) < 6) : zX l G cy yX11_text cX11_text 4 (some .int) 2 [.ref h0, .int x0, .int x1] [(h0, .inr (11, [.ref h2, .ref h3, .ref h4, .ref h5, .ref h6, .ref h7, .ref h8, .ref h9, .ref h10, .ref h11, .ref h1, .int (-1), .int (-1), .int (-1), .int (-1)])), (h1, .inl (cy 0, 3, .inl (kc 0)))] "java/util/NoSuchElementException" zNI := by
  refine zX.of (by decide) (Nat.le_of_ble_eq_true rfl) ?_
  intro p e s m args below meth c ls A hx hb hml hown hts hlk htab hl hK hE hA hT
  have hown : s.vm.findClass "CostBench" = some m.cls := hown
  have hl : lv_has ls 4 [(0, .ref h0), (1, .int x0), (2, .int x1)] := hl
  refine lv_aload_n (pc := 0) hx hb dX11_text_0 rfl (lv_at hl 0 rfl) ?_
  refine lv_iload_n (pc := 1) hx hb dX11_text_1 rfl (lv_at hl 1 rfl) ?_
  exact z_cVX (pc := 2) hx hb hml hown hts hlk htab hK hE hA hT lkV_RX11_99 (k507_X11_checkSlot l G cy hl0 h0 h1 h2 h3 h4 h5 h6 h7 h8 h9 h10 h11 x0 hf0 hf1) [0, 1] rfl rfl 0 rfl rfl (by decide) rfl hl.1 rfl (Nat.le_of_ble_eq_true rfl) dX11_text_2 (Nat.le_of_ble_eq_true rfl) (Nat.le_of_ble_eq_true rfl)
set_option maxHeartbeats 4000000 in
set_option maxRecDepth 100000 in
theorem k559_X11_text (l : Launch) (G : va_G) (cy : Nat → ClassId) (hl0 : l.stackTraces = false) (h0 h1 h2 h3 h4 h5 h6 h7 h8 h9 h10 h11 h12 : Nat) (x0 : Int32) (n0 : Nat) (hlon0 : 0 ≤ n0) (hhin0 : n0 < 6) (hf0 : (x0 : Int32) < 0) : zX l G cy yX11_text cX11_text 4 (some .int) 2 [.ref h0, .int (nI n0), .int x0] [(h0, .inr (11, [.ref h3, .ref h4, .ref h1, .ref h5, .ref h6, .ref h7, .ref h8, .ref h9, .ref h10, .ref h11, .ref h2, .int (-1), .int (-1), .int (-1), .int (-1)])), (h1, .inr (9, [.int 0, .ref h12, .int 0, .int 0, .int 0, .int 0])), (h2, .inl (cy 0, 3, .inl (kc 0)))] "java/lang/IllegalArgumentException" zNI := by
  refine zX.of (by decide) (Nat.le_of_ble_eq_true rfl) ?_
  intro p e s m args below meth c ls A hx hb hml hown hts hlk htab hl hK hE hA hT
  have hown : s.vm.findClass "CostBench" = some m.cls := hown
  have hl : lv_has ls 4 [(0, .ref h0), (1, .int (nI n0)), (2, .int x0)] := hl
  refine lv_aload_n (pc := 0) hx hb dX11_text_0 rfl (lv_at hl 0 rfl) ?_
  refine lv_iload_n (pc := 1) hx hb dX11_text_1 rfl (lv_at hl 1 rfl) ?_
  refine z_cVV (pc := 2) hx hb hml hown hts hK hA hT lkV_RX11_99 (k26_X11_checkSlot l G cy h0 h3 h4 h1 h5 h6 h7 h8 h9 h10 h11 h2 n0 (by omega) (by omega)) [0] [1, 2] rfl rfl rfl rfl rfl 0 rfl rfl (by decide) rfl hl.1 rfl (Nat.le_of_ble_eq_true rfl) dX11_text_2 ⟨Nat.le_of_ble_eq_true rfl, Nat.le_of_ble_eq_true rfl⟩ (fun _ => [(h1, .inr (9, [.int 0, .ref h12, .int 0, .int 0, .int 0, .int 0])), (h2, .inl (cy 0, 3, .inl (kc 0))), (h0, .inr (11, [.ref h3, .ref h4, .ref h1, .ref h5, .ref h6, .ref h7, .ref h8, .ref h9, .ref h10, .ref h11, .ref h2, .int (-1), .int (-1), .int (-1), .int (-1)]))]) (fun _ => rfl) (fun qs1 H locs hT => ?_)
  refine lv_aload_n (pc := 5) hx hb dX11_text_5 rfl (lv_at hl 0 rfl) ?_
  refine lv_iload_n (pc := 6) hx hb dX11_text_6 rfl (lv_at hl 2 rfl) ?_
  refine lv_iconst (pc := 7) (v := 0) hx hb dX11_text_7 (by decide) ?_
  refine lv_aload_n (pc := 8) hx hb dX11_text_8 rfl (lv_at hl 0 rfl) ?_
  refine z_get (pc := 9) hx hb hts hown hK hT 2 11 2 rfl rfl (by decide) rfl w3_11 rfl dX11_text_9 ?_
  refine z_get (pc := 12) hx hb hts hown hK hT 0 9 0 rfl rfl (by decide) rfl w1_169 rfl dX11_text_12 ?_
  exact z_cVX (pc := 15) hx hb hml hown hts hlk htab hK hE hA hT lkV_RX11_106 (k549_X11_checkValue l G cy hl0 h0 h2 h3 h4 h1 h5 h6 h7 h8 h9 h10 h11 x0 hf0) [2, 1] rfl rfl 0 rfl rfl (by decide) rfl hl.1 rfl (Nat.le_of_ble_eq_true rfl) dX11_text_15 (Nat.le_of_ble_eq_true rfl) (Nat.le_of_ble_eq_true rfl)
set_option maxHeartbeats 4000000 in
set_option maxRecDepth 100000 in
theorem k560_X11_text (l : Launch) (G : va_G) (cy : Nat → ClassId) (hl0 : l.stackTraces = false) (h0 h1 h2 h3 h4 h5 h6 h7 h8 h9 h10 h11 h12 : Nat) (x0 : Int32) (n0 : Nat) (hlon0 : 0 ≤ n0) (hhin0 : n0 < 6) (hf0 : ¬ (x0 : Int32) < 0) (hf1 : (0 : Int32) < x0) : zX l G cy yX11_text cX11_text 4 (some .int) 2 [.ref h0, .int (nI n0), .int x0] [(h0, .inr (11, [.ref h3, .ref h4, .ref h1, .ref h5, .ref h6, .ref h7, .ref h8, .ref h9, .ref h10, .ref h11, .ref h2, .int (-1), .int (-1), .int (-1), .int (-1)])), (h1, .inr (9, [.int 0, .ref h12, .int 0, .int 0, .int 0, .int 0])), (h2, .inl (cy 0, 3, .inl (kc 0)))] "java/lang/IllegalArgumentException" zNI := by
  refine zX.of (by decide) (Nat.le_of_ble_eq_true rfl) ?_
  intro p e s m args below meth c ls A hx hb hml hown hts hlk htab hl hK hE hA hT
  have hown : s.vm.findClass "CostBench" = some m.cls := hown
  have hl : lv_has ls 4 [(0, .ref h0), (1, .int (nI n0)), (2, .int x0)] := hl
  refine lv_aload_n (pc := 0) hx hb dX11_text_0 rfl (lv_at hl 0 rfl) ?_
  refine lv_iload_n (pc := 1) hx hb dX11_text_1 rfl (lv_at hl 1 rfl) ?_
  refine z_cVV (pc := 2) hx hb hml hown hts hK hA hT lkV_RX11_99 (k26_X11_checkSlot l G cy h0 h3 h4 h1 h5 h6 h7 h8 h9 h10 h11 h2 n0 (by omega) (by omega)) [0] [1, 2] rfl rfl rfl rfl rfl 0 rfl rfl (by decide) rfl hl.1 rfl (Nat.le_of_ble_eq_true rfl) dX11_text_2 ⟨Nat.le_of_ble_eq_true rfl, Nat.le_of_ble_eq_true rfl⟩ (fun _ => [(h1, .inr (9, [.int 0, .ref h12, .int 0, .int 0, .int 0, .int 0])), (h2, .inl (cy 0, 3, .inl (kc 0))), (h0, .inr (11, [.ref h3, .ref h4, .ref h1, .ref h5, .ref h6, .ref h7, .ref h8, .ref h9, .ref h10, .ref h11, .ref h2, .int (-1), .int (-1), .int (-1), .int (-1)]))]) (fun _ => rfl) (fun qs1 H locs hT => ?_)
  refine lv_aload_n (pc := 5) hx hb dX11_text_5 rfl (lv_at hl 0 rfl) ?_
  refine lv_iload_n (pc := 6) hx hb dX11_text_6 rfl (lv_at hl 2 rfl) ?_
  refine lv_iconst (pc := 7) (v := 0) hx hb dX11_text_7 (by decide) ?_
  refine lv_aload_n (pc := 8) hx hb dX11_text_8 rfl (lv_at hl 0 rfl) ?_
  refine z_get (pc := 9) hx hb hts hown hK hT 2 11 2 rfl rfl (by decide) rfl w3_11 rfl dX11_text_9 ?_
  refine z_get (pc := 12) hx hb hts hown hK hT 0 9 0 rfl rfl (by decide) rfl w1_169 rfl dX11_text_12 ?_
  exact z_cVX (pc := 15) hx hb hml hown hts hlk htab hK hE hA hT lkV_RX11_106 (k551_X11_checkValue l G cy hl0 h0 h2 h3 h4 h1 h5 h6 h7 h8 h9 h10 h11 x0 hf0 hf1) [2, 1] rfl rfl 0 rfl rfl (by decide) rfl hl.1 rfl (Nat.le_of_ble_eq_true rfl) dX11_text_15 (Nat.le_of_ble_eq_true rfl) (Nat.le_of_ble_eq_true rfl)
set_option maxHeartbeats 4000000 in
set_option maxRecDepth 100000 in
theorem k561_X11_words (l : Launch) (G : va_G) (cy : Nat → ClassId) (hl0 : l.stackTraces = false) (h0 h1 h2 h3 h4 h5 h6 h7 h8 h9 h10 h11 : Nat) (x0 : Int32) (x1 : Int32) (hf0 : (x0 : Int32) < 0) : zX l G cy yX11_words cX11_words 3 (some .int) 2 [.ref h0, .int x0, .int x1] [(h0, .inr (11, [.ref h2, .ref h3, .ref h4, .ref h5, .ref h6, .ref h7, .ref h8, .ref h9, .ref h10, .ref h11, .ref h1, .int (-1), .int (-1), .int (-1), .int (-1)])), (h1, .inl (cy 0, 3, .inl (kc 0)))] "java/util/NoSuchElementException" zNI := by
  refine zX.of (by decide) (Nat.le_of_ble_eq_true rfl) ?_
  intro p e s m args below meth c ls A hx hb hml hown hts hlk htab hl hK hE hA hT
  have hown : s.vm.findClass "CostBench" = some m.cls := hown
  have hl : lv_has ls 3 [(0, .ref h0), (1, .int x0), (2, .int x1)] := hl
  refine lv_aload_n (pc := 0) hx hb dX11_words_0 rfl (lv_at hl 0 rfl) ?_
  refine lv_iload_n (pc := 1) hx hb dX11_words_1 rfl (lv_at hl 1 rfl) ?_
  exact z_cVX (pc := 2) hx hb hml hown hts hlk htab hK hE hA hT lkV_RX11_99 (k504_X11_checkSlot l G cy hl0 h0 h1 h2 h3 h4 h5 h6 h7 h8 h9 h10 h11 x0 hf0) [0, 1] rfl rfl 0 rfl rfl (by decide) rfl hl.1 rfl (Nat.le_of_ble_eq_true rfl) dX11_words_2 (Nat.le_of_ble_eq_true rfl) (Nat.le_of_ble_eq_true rfl)
set_option maxHeartbeats 4000000 in
set_option maxRecDepth 100000 in
theorem k562_X11_words (l : Launch) (G : va_G) (cy : Nat → ClassId) (hl0 : l.stackTraces = false) (h0 h1 h2 h3 h4 h5 h6 h7 h8 h9 h10 h11 : Nat) (x0 : Int32) (x1 : Int32) (hf0 : ¬ (x0 : Int32) < 0) (hf1 : ¬ (x0 : Int32) < 6) : zX l G cy yX11_words cX11_words 3 (some .int) 2 [.ref h0, .int x0, .int x1] [(h0, .inr (11, [.ref h2, .ref h3, .ref h4, .ref h5, .ref h6, .ref h7, .ref h8, .ref h9, .ref h10, .ref h11, .ref h1, .int (-1), .int (-1), .int (-1), .int (-1)])), (h1, .inl (cy 0, 3, .inl (kc 0)))] "java/util/NoSuchElementException" zNI := by
  refine zX.of (by decide) (Nat.le_of_ble_eq_true rfl) ?_
  intro p e s m args below meth c ls A hx hb hml hown hts hlk htab hl hK hE hA hT
  have hown : s.vm.findClass "CostBench" = some m.cls := hown
  have hl : lv_has ls 3 [(0, .ref h0), (1, .int x0), (2, .int x1)] := hl
  refine lv_aload_n (pc := 0) hx hb dX11_words_0 rfl (lv_at hl 0 rfl) ?_
  refine lv_iload_n (pc := 1) hx hb dX11_words_1 rfl (lv_at hl 1 rfl) ?_
  exact z_cVX (pc := 2) hx hb hml hown hts hlk htab hK hE hA hT lkV_RX11_99 (k507_X11_checkSlot l G cy hl0 h0 h1 h2 h3 h4 h5 h6 h7 h8 h9 h10 h11 x0 hf0 hf1) [0, 1] rfl rfl 0 rfl rfl (by decide) rfl hl.1 rfl (Nat.le_of_ble_eq_true rfl) dX11_words_2 (Nat.le_of_ble_eq_true rfl) (Nat.le_of_ble_eq_true rfl)
set_option maxHeartbeats 4000000 in
set_option maxRecDepth 100000 in
theorem k563_X11_checkValue (l : Launch) (G : va_G) (cy : Nat → ClassId) (hl0 : l.stackTraces = false) (h0 h1 h2 h3 h4 h5 h6 h7 h8 h9 h10 h11 : Nat) (x0 : Int32) (hf0 : (x0 : Int32) < 0) : zX l G cy yX11_checkValue cX11_checkValue 4 none 0 [.ref h0, .int x0, .int 0, .int 8] [(h0, .inr (11, [.ref h2, .ref h3, .ref h4, .ref h5, .ref h6, .ref h7, .ref h8, .ref h9, .ref h10, .ref h11, .ref h1, .int (-1), .int (-1), .int (-1), .int (-1)])), (h1, .inl (cy 0, 3, .inl (kc 0)))] "java/lang/IllegalArgumentException" zNV := by
  refine zX.of (by decide) (Nat.le_of_ble_eq_true rfl) ?_
  intro p e s m args below meth c ls A hx hb hml hown hts hlk htab hl hK hE hA hT
  have hown : s.vm.findClass "CostBench" = some m.cls := hown
  have hl : lv_has ls 4 [(0, .ref h0), (1, .int x0), (2, .int 0), (3, .int 8)] := hl
  refine lv_iload_n (pc := 0) hx hb dX11_checkValue_0 rfl (lv_at hl 1 rfl) ?_
  refine lv_iload_n (pc := 1) hx hb dX11_checkValue_1 rfl (lv_at hl 2 rfl) ?_
  refine zb_icmp_lt_t (pc := 2) (tgt := 10) hx hb dX11_checkValue_2 (by decide) hf0 ?_
  refine lv_aload_n (pc := 10) hx hb dX11_checkValue_10 rfl (lv_at hl 0 rfl) ?_
  refine z_get (pc := 11) hx hb hts hown hK hT 0 11 10 rfl rfl (by decide) rfl w3_19 rfl dX11_checkValue_11 ?_
  refine lv_iconst (pc := 14) (v := 1) hx hb dX11_checkValue_14 (by decide) ?_
  refine lv_dup2_11 (pc := 15) hx hb dX11_checkValue_15 rfl rfl ?_
  refine z_iald (pc := 16) (v := 0) hx hb hK hT 1 1 rfl rfl (by decide) (by decide) rfl dX11_checkValue_16 ?_
  refine lv_iconst (pc := 17) (v := 1) hx hb dX11_checkValue_17 (by decide) ?_
  refine z_iadd (pc := 18) (v := 1) hx hb dX11_checkValue_18 (by decide) ?_
  refine z_iast (pc := 19) hx hb hK hT 1 1 rfl rfl (by decide) (by decide) dX11_checkValue_19 (upd (kc 0) 1 1) (fun _ _ => rfl) [(h0, .inr (11, [.ref h2, .ref h3, .ref h4, .ref h5, .ref h6, .ref h7, .ref h8, .ref h9, .ref h10, .ref h11, .ref h1, .int (-1), .int (-1), .int (-1), .int (-1)])), (h1, .inl (cy 0, 3, .inl (upd (kc 0) 1 1)))] rfl (fun H locs hT => ?_)
  exact z_throwA (pc := 20) hl0 hx hb hml hown hts hlk htab hE hT hl.1 (Nat.le_of_ble_eq_true rfl) (Nat.le_of_ble_eq_true rfl) (Nat.le_of_ble_eq_true rfl) dX11_checkValue_20 dX11_checkValue_23 dX11_checkValue_24 dX11_checkValue_27 dX11_checkValue_30
set_option maxHeartbeats 4000000 in
set_option maxRecDepth 100000 in
theorem k564_X11_words (l : Launch) (G : va_G) (cy : Nat → ClassId) (hl0 : l.stackTraces = false) (h0 h1 h2 h3 h4 h5 h6 h7 h8 h9 h10 h11 : Nat) (x0 : Int32) (n0 : Nat) (hlon0 : 0 ≤ n0) (hhin0 : n0 < 6) (hf0 : (x0 : Int32) < 0) : zX l G cy yX11_words cX11_words 3 (some .int) 2 [.ref h0, .int (nI n0), .int x0] [(h0, .inr (11, [.ref h2, .ref h3, .ref h4, .ref h5, .ref h6, .ref h7, .ref h8, .ref h9, .ref h10, .ref h11, .ref h1, .int (-1), .int (-1), .int (-1), .int (-1)])), (h1, .inl (cy 0, 3, .inl (kc 0)))] "java/lang/IllegalArgumentException" zNI := by
  refine zX.of (by decide) (Nat.le_of_ble_eq_true rfl) ?_
  intro p e s m args below meth c ls A hx hb hml hown hts hlk htab hl hK hE hA hT
  have hown : s.vm.findClass "CostBench" = some m.cls := hown
  have hl : lv_has ls 3 [(0, .ref h0), (1, .int (nI n0)), (2, .int x0)] := hl
  refine lv_aload_n (pc := 0) hx hb dX11_words_0 rfl (lv_at hl 0 rfl) ?_
  refine lv_iload_n (pc := 1) hx hb dX11_words_1 rfl (lv_at hl 1 rfl) ?_
  refine z_cVV (pc := 2) hx hb hml hown hts hK hA hT lkV_RX11_99 (k26_X11_checkSlot l G cy h0 h2 h3 h4 h5 h6 h7 h8 h9 h10 h11 h1 n0 (by omega) (by omega)) [0] [1] rfl rfl rfl rfl rfl 0 rfl rfl (by decide) rfl hl.1 rfl (Nat.le_of_ble_eq_true rfl) dX11_words_2 ⟨Nat.le_of_ble_eq_true rfl, Nat.le_of_ble_eq_true rfl⟩ (fun _ => [(h1, .inl (cy 0, 3, .inl (kc 0))), (h0, .inr (11, [.ref h2, .ref h3, .ref h4, .ref h5, .ref h6, .ref h7, .ref h8, .ref h9, .ref h10, .ref h11, .ref h1, .int (-1), .int (-1), .int (-1), .int (-1)]))]) (fun _ => rfl) (fun qs1 H locs hT => ?_)
  refine lv_aload_n (pc := 5) hx hb dX11_words_5 rfl (lv_at hl 0 rfl) ?_
  refine lv_iload_n (pc := 6) hx hb dX11_words_6 rfl (lv_at hl 2 rfl) ?_
  refine lv_iconst (pc := 7) (v := 0) hx hb dX11_words_7 (by decide) ?_
  refine lv_bipush (pc := 8) (v := 8) hx hb dX11_words_8 (by decide) ?_
  exact z_cVX (pc := 10) hx hb hml hown hts hlk htab hK hE hA hT lkV_RX11_106 (k563_X11_checkValue l G cy hl0 h0 h1 h2 h3 h4 h5 h6 h7 h8 h9 h10 h11 x0 hf0) [1, 0] rfl rfl 0 rfl rfl (by decide) rfl hl.1 rfl (Nat.le_of_ble_eq_true rfl) dX11_words_10 (Nat.le_of_ble_eq_true rfl) (Nat.le_of_ble_eq_true rfl)
set_option maxHeartbeats 4000000 in
set_option maxRecDepth 100000 in
theorem k565_X11_checkValue (l : Launch) (G : va_G) (cy : Nat → ClassId) (hl0 : l.stackTraces = false) (h0 h1 h2 h3 h4 h5 h6 h7 h8 h9 h10 h11 : Nat) (x0 : Int32) (hf0 : ¬ (x0 : Int32) < 0) (hf1 : (8 : Int32) < x0) : zX l G cy yX11_checkValue cX11_checkValue 4 none 0 [.ref h0, .int x0, .int 0, .int 8] [(h0, .inr (11, [.ref h2, .ref h3, .ref h4, .ref h5, .ref h6, .ref h7, .ref h8, .ref h9, .ref h10, .ref h11, .ref h1, .int (-1), .int (-1), .int (-1), .int (-1)])), (h1, .inl (cy 0, 3, .inl (kc 0)))] "java/lang/IllegalArgumentException" zNV := by
  refine zX.of (by decide) (Nat.le_of_ble_eq_true rfl) ?_
  intro p e s m args below meth c ls A hx hb hml hown hts hlk htab hl hK hE hA hT
  have hown : s.vm.findClass "CostBench" = some m.cls := hown
  have hl : lv_has ls 4 [(0, .ref h0), (1, .int x0), (2, .int 0), (3, .int 8)] := hl
  refine lv_iload_n (pc := 0) hx hb dX11_checkValue_0 rfl (lv_at hl 1 rfl) ?_
  refine lv_iload_n (pc := 1) hx hb dX11_checkValue_1 rfl (lv_at hl 2 rfl) ?_
  refine zb_icmp_lt_f (pc := 2) (tgt := 10) hx hb dX11_checkValue_2 (by decide) hf0 ?_
  refine lv_iload_n (pc := 5) hx hb dX11_checkValue_5 rfl (lv_at hl 1 rfl) ?_
  refine lv_iload_n (pc := 6) hx hb dX11_checkValue_6 rfl (lv_at hl 3 rfl) ?_
  refine zb_icmp_le_f (pc := 7) (tgt := 31) hx hb dX11_checkValue_7 (by decide) (znle_of_lt hf1) ?_
  refine lv_aload_n (pc := 10) hx hb dX11_checkValue_10 rfl (lv_at hl 0 rfl) ?_
  refine z_get (pc := 11) hx hb hts hown hK hT 0 11 10 rfl rfl (by decide) rfl w3_19 rfl dX11_checkValue_11 ?_
  refine lv_iconst (pc := 14) (v := 1) hx hb dX11_checkValue_14 (by decide) ?_
  refine lv_dup2_11 (pc := 15) hx hb dX11_checkValue_15 rfl rfl ?_
  refine z_iald (pc := 16) (v := 0) hx hb hK hT 1 1 rfl rfl (by decide) (by decide) rfl dX11_checkValue_16 ?_
  refine lv_iconst (pc := 17) (v := 1) hx hb dX11_checkValue_17 (by decide) ?_
  refine z_iadd (pc := 18) (v := 1) hx hb dX11_checkValue_18 (by decide) ?_
  refine z_iast (pc := 19) hx hb hK hT 1 1 rfl rfl (by decide) (by decide) dX11_checkValue_19 (upd (kc 0) 1 1) (fun _ _ => rfl) [(h0, .inr (11, [.ref h2, .ref h3, .ref h4, .ref h5, .ref h6, .ref h7, .ref h8, .ref h9, .ref h10, .ref h11, .ref h1, .int (-1), .int (-1), .int (-1), .int (-1)])), (h1, .inl (cy 0, 3, .inl (upd (kc 0) 1 1)))] rfl (fun H locs hT => ?_)
  exact z_throwA (pc := 20) hl0 hx hb hml hown hts hlk htab hE hT hl.1 (Nat.le_of_ble_eq_true rfl) (Nat.le_of_ble_eq_true rfl) (Nat.le_of_ble_eq_true rfl) dX11_checkValue_20 dX11_checkValue_23 dX11_checkValue_24 dX11_checkValue_27 dX11_checkValue_30
set_option maxHeartbeats 4000000 in
set_option maxRecDepth 100000 in
theorem k566_X11_words (l : Launch) (G : va_G) (cy : Nat → ClassId) (hl0 : l.stackTraces = false) (h0 h1 h2 h3 h4 h5 h6 h7 h8 h9 h10 h11 : Nat) (x0 : Int32) (n0 : Nat) (hlon0 : 0 ≤ n0) (hhin0 : n0 < 6) (hf0 : ¬ (x0 : Int32) < 0) (hf1 : (8 : Int32) < x0) : zX l G cy yX11_words cX11_words 3 (some .int) 2 [.ref h0, .int (nI n0), .int x0] [(h0, .inr (11, [.ref h2, .ref h3, .ref h4, .ref h5, .ref h6, .ref h7, .ref h8, .ref h9, .ref h10, .ref h11, .ref h1, .int (-1), .int (-1), .int (-1), .int (-1)])), (h1, .inl (cy 0, 3, .inl (kc 0)))] "java/lang/IllegalArgumentException" zNI := by
  refine zX.of (by decide) (Nat.le_of_ble_eq_true rfl) ?_
  intro p e s m args below meth c ls A hx hb hml hown hts hlk htab hl hK hE hA hT
  have hown : s.vm.findClass "CostBench" = some m.cls := hown
  have hl : lv_has ls 3 [(0, .ref h0), (1, .int (nI n0)), (2, .int x0)] := hl
  refine lv_aload_n (pc := 0) hx hb dX11_words_0 rfl (lv_at hl 0 rfl) ?_
  refine lv_iload_n (pc := 1) hx hb dX11_words_1 rfl (lv_at hl 1 rfl) ?_
  refine z_cVV (pc := 2) hx hb hml hown hts hK hA hT lkV_RX11_99 (k26_X11_checkSlot l G cy h0 h2 h3 h4 h5 h6 h7 h8 h9 h10 h11 h1 n0 (by omega) (by omega)) [0] [1] rfl rfl rfl rfl rfl 0 rfl rfl (by decide) rfl hl.1 rfl (Nat.le_of_ble_eq_true rfl) dX11_words_2 ⟨Nat.le_of_ble_eq_true rfl, Nat.le_of_ble_eq_true rfl⟩ (fun _ => [(h1, .inl (cy 0, 3, .inl (kc 0))), (h0, .inr (11, [.ref h2, .ref h3, .ref h4, .ref h5, .ref h6, .ref h7, .ref h8, .ref h9, .ref h10, .ref h11, .ref h1, .int (-1), .int (-1), .int (-1), .int (-1)]))]) (fun _ => rfl) (fun qs1 H locs hT => ?_)
  refine lv_aload_n (pc := 5) hx hb dX11_words_5 rfl (lv_at hl 0 rfl) ?_
  refine lv_iload_n (pc := 6) hx hb dX11_words_6 rfl (lv_at hl 2 rfl) ?_
  refine lv_iconst (pc := 7) (v := 0) hx hb dX11_words_7 (by decide) ?_
  refine lv_bipush (pc := 8) (v := 8) hx hb dX11_words_8 (by decide) ?_
  exact z_cVX (pc := 10) hx hb hml hown hts hlk htab hK hE hA hT lkV_RX11_106 (k565_X11_checkValue l G cy hl0 h0 h1 h2 h3 h4 h5 h6 h7 h8 h9 h10 h11 x0 hf0 hf1) [1, 0] rfl rfl 0 rfl rfl (by decide) rfl hl.1 rfl (Nat.le_of_ble_eq_true rfl) dX11_words_10 (Nat.le_of_ble_eq_true rfl) (Nat.le_of_ble_eq_true rfl)
set_option maxHeartbeats 4000000 in
set_option maxRecDepth 100000 in
theorem k567_X11_worst (l : Launch) (G : va_G) (cy : Nat → ClassId) (hl0 : l.stackTraces = false) (h0 h1 h2 h3 h4 h5 h6 h7 h8 h9 h10 h11 : Nat) (x0 : Int32) (x1 : Int32) (x2 : Int32) (hf0 : (x0 : Int32) < 0) : zX l G cy yX11_worst cX11_worst 4 (some .int) 2 [.ref h0, .int x0, .int x1, .int x2] [(h0, .inr (11, [.ref h2, .ref h3, .ref h4, .ref h5, .ref h6, .ref h7, .ref h8, .ref h9, .ref h10, .ref h11, .ref h1, .int (-1), .int (-1), .int (-1), .int (-1)])), (h1, .inl (cy 0, 3, .inl (kc 0)))] "java/util/NoSuchElementException" zNI := by
  refine zX.of (by decide) (Nat.le_of_ble_eq_true rfl) ?_
  intro p e s m args below meth c ls A hx hb hml hown hts hlk htab hl hK hE hA hT
  have hown : s.vm.findClass "CostBench" = some m.cls := hown
  have hl : lv_has ls 4 [(0, .ref h0), (1, .int x0), (2, .int x1), (3, .int x2)] := hl
  refine lv_aload_n (pc := 0) hx hb dX11_worst_0 rfl (lv_at hl 0 rfl) ?_
  refine lv_iload_n (pc := 1) hx hb dX11_worst_1 rfl (lv_at hl 1 rfl) ?_
  exact z_cVX (pc := 2) hx hb hml hown hts hlk htab hK hE hA hT lkV_RX11_99 (k504_X11_checkSlot l G cy hl0 h0 h1 h2 h3 h4 h5 h6 h7 h8 h9 h10 h11 x0 hf0) [0, 1] rfl rfl 0 rfl rfl (by decide) rfl hl.1 rfl (Nat.le_of_ble_eq_true rfl) dX11_worst_2 (Nat.le_of_ble_eq_true rfl) (Nat.le_of_ble_eq_true rfl)
set_option maxHeartbeats 4000000 in
set_option maxRecDepth 100000 in
theorem k568_X11_worst (l : Launch) (G : va_G) (cy : Nat → ClassId) (hl0 : l.stackTraces = false) (h0 h1 h2 h3 h4 h5 h6 h7 h8 h9 h10 h11 : Nat) (x0 : Int32) (x1 : Int32) (x2 : Int32) (hf0 : ¬ (x0 : Int32) < 0) (hf1 : ¬ (x0 : Int32) < 6) : zX l G cy yX11_worst cX11_worst 4 (some .int) 2 [.ref h0, .int x0, .int x1, .int x2] [(h0, .inr (11, [.ref h2, .ref h3, .ref h4, .ref h5, .ref h6, .ref h7, .ref h8, .ref h9, .ref h10, .ref h11, .ref h1, .int (-1), .int (-1), .int (-1), .int (-1)])), (h1, .inl (cy 0, 3, .inl (kc 0)))] "java/util/NoSuchElementException" zNI := by
  refine zX.of (by decide) (Nat.le_of_ble_eq_true rfl) ?_
  intro p e s m args below meth c ls A hx hb hml hown hts hlk htab hl hK hE hA hT
  have hown : s.vm.findClass "CostBench" = some m.cls := hown
  have hl : lv_has ls 4 [(0, .ref h0), (1, .int x0), (2, .int x1), (3, .int x2)] := hl
  refine lv_aload_n (pc := 0) hx hb dX11_worst_0 rfl (lv_at hl 0 rfl) ?_
  refine lv_iload_n (pc := 1) hx hb dX11_worst_1 rfl (lv_at hl 1 rfl) ?_
  exact z_cVX (pc := 2) hx hb hml hown hts hlk htab hK hE hA hT lkV_RX11_99 (k507_X11_checkSlot l G cy hl0 h0 h1 h2 h3 h4 h5 h6 h7 h8 h9 h10 h11 x0 hf0 hf1) [0, 1] rfl rfl 0 rfl rfl (by decide) rfl hl.1 rfl (Nat.le_of_ble_eq_true rfl) dX11_worst_2 (Nat.le_of_ble_eq_true rfl) (Nat.le_of_ble_eq_true rfl)
set_option maxHeartbeats 4000000 in
set_option maxRecDepth 100000 in
theorem k569_X11_worst (l : Launch) (G : va_G) (cy : Nat → ClassId) (hl0 : l.stackTraces = false) (h0 h1 h2 h3 h4 h5 h6 h7 h8 h9 h10 h11 : Nat) (x0 : Int32) (x1 : Int32) (n0 : Nat) (hlon0 : 0 ≤ n0) (hhin0 : n0 < 6) (hf0 : (x0 : Int32) < 0) : zX l G cy yX11_worst cX11_worst 4 (some .int) 2 [.ref h0, .int (nI n0), .int x0, .int x1] [(h0, .inr (11, [.ref h2, .ref h3, .ref h4, .ref h5, .ref h6, .ref h7, .ref h8, .ref h9, .ref h10, .ref h11, .ref h1, .int (-1), .int (-1), .int (-1), .int (-1)])), (h1, .inl (cy 0, 3, .inl (kc 0)))] "java/lang/IllegalArgumentException" zNI := by
  refine zX.of (by decide) (Nat.le_of_ble_eq_true rfl) ?_
  intro p e s m args below meth c ls A hx hb hml hown hts hlk htab hl hK hE hA hT
  have hown : s.vm.findClass "CostBench" = some m.cls := hown
  have hl : lv_has ls 4 [(0, .ref h0), (1, .int (nI n0)), (2, .int x0), (3, .int x1)] := hl
  refine lv_aload_n (pc := 0) hx hb dX11_worst_0 rfl (lv_at hl 0 rfl) ?_
  refine lv_iload_n (pc := 1) hx hb dX11_worst_1 rfl (lv_at hl 1 rfl) ?_
  refine z_cVV (pc := 2) hx hb hml hown hts hK hA hT lkV_RX11_99 (k26_X11_checkSlot l G cy h0 h2 h3 h4 h5 h6 h7 h8 h9 h10 h11 h1 n0 (by omega) (by omega)) [0] [1] rfl rfl rfl rfl rfl 0 rfl rfl (by decide) rfl hl.1 rfl (Nat.le_of_ble_eq_true rfl) dX11_worst_2 ⟨Nat.le_of_ble_eq_true rfl, Nat.le_of_ble_eq_true rfl⟩ (fun _ => [(h1, .inl (cy 0, 3, .inl (kc 0))), (h0, .inr (11, [.ref h2, .ref h3, .ref h4, .ref h5, .ref h6, .ref h7, .ref h8, .ref h9, .ref h10, .ref h11, .ref h1, .int (-1), .int (-1), .int (-1), .int (-1)]))]) (fun _ => rfl) (fun qs1 H locs hT => ?_)
  refine lv_aload_n (pc := 5) hx hb dX11_worst_5 rfl (lv_at hl 0 rfl) ?_
  refine lv_iload_n (pc := 6) hx hb dX11_worst_6 rfl (lv_at hl 2 rfl) ?_
  refine lv_iconst (pc := 7) (v := 0) hx hb dX11_worst_7 (by decide) ?_
  refine lv_bipush (pc := 8) (v := 8) hx hb dX11_worst_8 (by decide) ?_
  exact z_cVX (pc := 10) hx hb hml hown hts hlk htab hK hE hA hT lkV_RX11_106 (k563_X11_checkValue l G cy hl0 h0 h1 h2 h3 h4 h5 h6 h7 h8 h9 h10 h11 x0 hf0) [1, 0] rfl rfl 0 rfl rfl (by decide) rfl hl.1 rfl (Nat.le_of_ble_eq_true rfl) dX11_worst_10 (Nat.le_of_ble_eq_true rfl) (Nat.le_of_ble_eq_true rfl)
set_option maxHeartbeats 4000000 in
set_option maxRecDepth 100000 in
theorem k570_X11_worst (l : Launch) (G : va_G) (cy : Nat → ClassId) (hl0 : l.stackTraces = false) (h0 h1 h2 h3 h4 h5 h6 h7 h8 h9 h10 h11 : Nat) (x0 : Int32) (x1 : Int32) (n0 : Nat) (hlon0 : 0 ≤ n0) (hhin0 : n0 < 6) (hf0 : ¬ (x0 : Int32) < 0) (hf1 : (8 : Int32) < x0) : zX l G cy yX11_worst cX11_worst 4 (some .int) 2 [.ref h0, .int (nI n0), .int x0, .int x1] [(h0, .inr (11, [.ref h2, .ref h3, .ref h4, .ref h5, .ref h6, .ref h7, .ref h8, .ref h9, .ref h10, .ref h11, .ref h1, .int (-1), .int (-1), .int (-1), .int (-1)])), (h1, .inl (cy 0, 3, .inl (kc 0)))] "java/lang/IllegalArgumentException" zNI := by
  refine zX.of (by decide) (Nat.le_of_ble_eq_true rfl) ?_
  intro p e s m args below meth c ls A hx hb hml hown hts hlk htab hl hK hE hA hT
  have hown : s.vm.findClass "CostBench" = some m.cls := hown
  have hl : lv_has ls 4 [(0, .ref h0), (1, .int (nI n0)), (2, .int x0), (3, .int x1)] := hl
  refine lv_aload_n (pc := 0) hx hb dX11_worst_0 rfl (lv_at hl 0 rfl) ?_
  refine lv_iload_n (pc := 1) hx hb dX11_worst_1 rfl (lv_at hl 1 rfl) ?_
  refine z_cVV (pc := 2) hx hb hml hown hts hK hA hT lkV_RX11_99 (k26_X11_checkSlot l G cy h0 h2 h3 h4 h5 h6 h7 h8 h9 h10 h11 h1 n0 (by omega) (by omega)) [0] [1] rfl rfl rfl rfl rfl 0 rfl rfl (by decide) rfl hl.1 rfl (Nat.le_of_ble_eq_true rfl) dX11_worst_2 ⟨Nat.le_of_ble_eq_true rfl, Nat.le_of_ble_eq_true rfl⟩ (fun _ => [(h1, .inl (cy 0, 3, .inl (kc 0))), (h0, .inr (11, [.ref h2, .ref h3, .ref h4, .ref h5, .ref h6, .ref h7, .ref h8, .ref h9, .ref h10, .ref h11, .ref h1, .int (-1), .int (-1), .int (-1), .int (-1)]))]) (fun _ => rfl) (fun qs1 H locs hT => ?_)
  refine lv_aload_n (pc := 5) hx hb dX11_worst_5 rfl (lv_at hl 0 rfl) ?_
  refine lv_iload_n (pc := 6) hx hb dX11_worst_6 rfl (lv_at hl 2 rfl) ?_
  refine lv_iconst (pc := 7) (v := 0) hx hb dX11_worst_7 (by decide) ?_
  refine lv_bipush (pc := 8) (v := 8) hx hb dX11_worst_8 (by decide) ?_
  exact z_cVX (pc := 10) hx hb hml hown hts hlk htab hK hE hA hT lkV_RX11_106 (k565_X11_checkValue l G cy hl0 h0 h1 h2 h3 h4 h5 h6 h7 h8 h9 h10 h11 x0 hf0 hf1) [1, 0] rfl rfl 0 rfl rfl (by decide) rfl hl.1 rfl (Nat.le_of_ble_eq_true rfl) dX11_worst_10 (Nat.le_of_ble_eq_true rfl) (Nat.le_of_ble_eq_true rfl)
set_option maxHeartbeats 4000000 in
set_option maxRecDepth 100000 in
theorem k571_X11_checkValue (l : Launch) (G : va_G) (cy : Nat → ClassId) (hl0 : l.stackTraces = false) (h0 h1 h2 h3 h4 h5 h6 h7 h8 h9 h10 h11 : Nat) (x0 : Int32) (hf0 : (x0 : Int32) < 0) : zX l G cy yX11_checkValue cX11_checkValue 4 none 0 [.ref h0, .int x0, .int 0, .int 1] [(h0, .inr (11, [.ref h2, .ref h3, .ref h4, .ref h5, .ref h6, .ref h7, .ref h8, .ref h9, .ref h10, .ref h11, .ref h1, .int (-1), .int (-1), .int (-1), .int (-1)])), (h1, .inl (cy 0, 3, .inl (kc 0)))] "java/lang/IllegalArgumentException" zNV := by
  refine zX.of (by decide) (Nat.le_of_ble_eq_true rfl) ?_
  intro p e s m args below meth c ls A hx hb hml hown hts hlk htab hl hK hE hA hT
  have hown : s.vm.findClass "CostBench" = some m.cls := hown
  have hl : lv_has ls 4 [(0, .ref h0), (1, .int x0), (2, .int 0), (3, .int 1)] := hl
  refine lv_iload_n (pc := 0) hx hb dX11_checkValue_0 rfl (lv_at hl 1 rfl) ?_
  refine lv_iload_n (pc := 1) hx hb dX11_checkValue_1 rfl (lv_at hl 2 rfl) ?_
  refine zb_icmp_lt_t (pc := 2) (tgt := 10) hx hb dX11_checkValue_2 (by decide) hf0 ?_
  refine lv_aload_n (pc := 10) hx hb dX11_checkValue_10 rfl (lv_at hl 0 rfl) ?_
  refine z_get (pc := 11) hx hb hts hown hK hT 0 11 10 rfl rfl (by decide) rfl w3_19 rfl dX11_checkValue_11 ?_
  refine lv_iconst (pc := 14) (v := 1) hx hb dX11_checkValue_14 (by decide) ?_
  refine lv_dup2_11 (pc := 15) hx hb dX11_checkValue_15 rfl rfl ?_
  refine z_iald (pc := 16) (v := 0) hx hb hK hT 1 1 rfl rfl (by decide) (by decide) rfl dX11_checkValue_16 ?_
  refine lv_iconst (pc := 17) (v := 1) hx hb dX11_checkValue_17 (by decide) ?_
  refine z_iadd (pc := 18) (v := 1) hx hb dX11_checkValue_18 (by decide) ?_
  refine z_iast (pc := 19) hx hb hK hT 1 1 rfl rfl (by decide) (by decide) dX11_checkValue_19 (upd (kc 0) 1 1) (fun _ _ => rfl) [(h0, .inr (11, [.ref h2, .ref h3, .ref h4, .ref h5, .ref h6, .ref h7, .ref h8, .ref h9, .ref h10, .ref h11, .ref h1, .int (-1), .int (-1), .int (-1), .int (-1)])), (h1, .inl (cy 0, 3, .inl (upd (kc 0) 1 1)))] rfl (fun H locs hT => ?_)
  exact z_throwA (pc := 20) hl0 hx hb hml hown hts hlk htab hE hT hl.1 (Nat.le_of_ble_eq_true rfl) (Nat.le_of_ble_eq_true rfl) (Nat.le_of_ble_eq_true rfl) dX11_checkValue_20 dX11_checkValue_23 dX11_checkValue_24 dX11_checkValue_27 dX11_checkValue_30
set_option maxHeartbeats 4000000 in
set_option maxRecDepth 100000 in
theorem k572_X11_worst (l : Launch) (G : va_G) (cy : Nat → ClassId) (hl0 : l.stackTraces = false) (h0 h1 h2 h3 h4 h5 h6 h7 h8 h9 h10 h11 : Nat) (x0 : Int32) (n0 : Nat) (n1 : Nat) (hlon0 : 0 ≤ n0) (hhin0 : n0 < 6) (hlon1 : 0 ≤ n1) (hhin1 : n1 < 9) (hf0 : (x0 : Int32) < 0) : zX l G cy yX11_worst cX11_worst 4 (some .int) 2 [.ref h0, .int (nI n0), .int (nI n1), .int x0] [(h0, .inr (11, [.ref h2, .ref h3, .ref h4, .ref h5, .ref h6, .ref h7, .ref h8, .ref h9, .ref h10, .ref h11, .ref h1, .int (-1), .int (-1), .int (-1), .int (-1)])), (h1, .inl (cy 0, 3, .inl (kc 0)))] "java/lang/IllegalArgumentException" zNI := by
  refine zX.of (by decide) (Nat.le_of_ble_eq_true rfl) ?_
  intro p e s m args below meth c ls A hx hb hml hown hts hlk htab hl hK hE hA hT
  have hown : s.vm.findClass "CostBench" = some m.cls := hown
  have hl : lv_has ls 4 [(0, .ref h0), (1, .int (nI n0)), (2, .int (nI n1)), (3, .int x0)] := hl
  refine lv_aload_n (pc := 0) hx hb dX11_worst_0 rfl (lv_at hl 0 rfl) ?_
  refine lv_iload_n (pc := 1) hx hb dX11_worst_1 rfl (lv_at hl 1 rfl) ?_
  refine z_cVV (pc := 2) hx hb hml hown hts hK hA hT lkV_RX11_99 (k26_X11_checkSlot l G cy h0 h2 h3 h4 h5 h6 h7 h8 h9 h10 h11 h1 n0 (by omega) (by omega)) [0] [1] rfl rfl rfl rfl rfl 0 rfl rfl (by decide) rfl hl.1 rfl (Nat.le_of_ble_eq_true rfl) dX11_worst_2 ⟨Nat.le_of_ble_eq_true rfl, Nat.le_of_ble_eq_true rfl⟩ (fun _ => [(h1, .inl (cy 0, 3, .inl (kc 0))), (h0, .inr (11, [.ref h2, .ref h3, .ref h4, .ref h5, .ref h6, .ref h7, .ref h8, .ref h9, .ref h10, .ref h11, .ref h1, .int (-1), .int (-1), .int (-1), .int (-1)]))]) (fun _ => rfl) (fun qs1 H locs hT => ?_)
  refine lv_aload_n (pc := 5) hx hb dX11_worst_5 rfl (lv_at hl 0 rfl) ?_
  refine lv_iload_n (pc := 6) hx hb dX11_worst_6 rfl (lv_at hl 2 rfl) ?_
  refine lv_iconst (pc := 7) (v := 0) hx hb dX11_worst_7 (by decide) ?_
  refine lv_bipush (pc := 8) (v := 8) hx hb dX11_worst_8 (by decide) ?_
  refine z_cVV (pc := 10) hx hb hml hown hts hK hA hT lkV_RX11_106 (k207_X11_checkValue l G cy h0 h2 h3 h4 h5 h6 h7 h8 h9 h10 h11 h1 n1 (by omega) (by omega)) [1] [0] rfl rfl rfl rfl rfl 0 rfl rfl (by decide) rfl hl.1 rfl (Nat.le_of_ble_eq_true rfl) dX11_worst_10 ⟨Nat.le_of_ble_eq_true rfl, Nat.le_of_ble_eq_true rfl⟩ (fun _ => [(h1, .inl (cy 0, 3, .inl (kc 0))), (h0, .inr (11, [.ref h2, .ref h3, .ref h4, .ref h5, .ref h6, .ref h7, .ref h8, .ref h9, .ref h10, .ref h11, .ref h1, .int (-1), .int (-1), .int (-1), .int (-1)]))]) (fun _ => rfl) (fun qs2 H locs hT => ?_)
  refine lv_aload_n (pc := 13) hx hb dX11_worst_13 rfl (lv_at hl 0 rfl) ?_
  refine lv_iload_n (pc := 14) hx hb dX11_worst_14 rfl (lv_at hl 3 rfl) ?_
  refine lv_iconst (pc := 15) (v := 0) hx hb dX11_worst_15 (by decide) ?_
  refine lv_iconst (pc := 16) (v := 1) hx hb dX11_worst_16 (by decide) ?_
  exact z_cVX (pc := 17) hx hb hml hown hts hlk htab hK hE hA hT lkV_RX11_106 (k571_X11_checkValue l G cy hl0 h0 h1 h2 h3 h4 h5 h6 h7 h8 h9 h10 h11 x0 hf0) [1, 0] rfl rfl 0 rfl rfl (by decide) rfl hl.1 rfl (Nat.le_of_ble_eq_true rfl) dX11_worst_17 (Nat.le_of_ble_eq_true rfl) (Nat.le_of_ble_eq_true rfl)
set_option maxHeartbeats 4000000 in
set_option maxRecDepth 100000 in
theorem k573_X11_checkValue (l : Launch) (G : va_G) (cy : Nat → ClassId) (hl0 : l.stackTraces = false) (h0 h1 h2 h3 h4 h5 h6 h7 h8 h9 h10 h11 : Nat) (x0 : Int32) (hf0 : ¬ (x0 : Int32) < 0) (hf1 : (1 : Int32) < x0) : zX l G cy yX11_checkValue cX11_checkValue 4 none 0 [.ref h0, .int x0, .int 0, .int 1] [(h0, .inr (11, [.ref h2, .ref h3, .ref h4, .ref h5, .ref h6, .ref h7, .ref h8, .ref h9, .ref h10, .ref h11, .ref h1, .int (-1), .int (-1), .int (-1), .int (-1)])), (h1, .inl (cy 0, 3, .inl (kc 0)))] "java/lang/IllegalArgumentException" zNV := by
  refine zX.of (by decide) (Nat.le_of_ble_eq_true rfl) ?_
  intro p e s m args below meth c ls A hx hb hml hown hts hlk htab hl hK hE hA hT
  have hown : s.vm.findClass "CostBench" = some m.cls := hown
  have hl : lv_has ls 4 [(0, .ref h0), (1, .int x0), (2, .int 0), (3, .int 1)] := hl
  refine lv_iload_n (pc := 0) hx hb dX11_checkValue_0 rfl (lv_at hl 1 rfl) ?_
  refine lv_iload_n (pc := 1) hx hb dX11_checkValue_1 rfl (lv_at hl 2 rfl) ?_
  refine zb_icmp_lt_f (pc := 2) (tgt := 10) hx hb dX11_checkValue_2 (by decide) hf0 ?_
  refine lv_iload_n (pc := 5) hx hb dX11_checkValue_5 rfl (lv_at hl 1 rfl) ?_
  refine lv_iload_n (pc := 6) hx hb dX11_checkValue_6 rfl (lv_at hl 3 rfl) ?_
  refine zb_icmp_le_f (pc := 7) (tgt := 31) hx hb dX11_checkValue_7 (by decide) (znle_of_lt hf1) ?_
  refine lv_aload_n (pc := 10) hx hb dX11_checkValue_10 rfl (lv_at hl 0 rfl) ?_
  refine z_get (pc := 11) hx hb hts hown hK hT 0 11 10 rfl rfl (by decide) rfl w3_19 rfl dX11_checkValue_11 ?_
  refine lv_iconst (pc := 14) (v := 1) hx hb dX11_checkValue_14 (by decide) ?_
  refine lv_dup2_11 (pc := 15) hx hb dX11_checkValue_15 rfl rfl ?_
  refine z_iald (pc := 16) (v := 0) hx hb hK hT 1 1 rfl rfl (by decide) (by decide) rfl dX11_checkValue_16 ?_
  refine lv_iconst (pc := 17) (v := 1) hx hb dX11_checkValue_17 (by decide) ?_
  refine z_iadd (pc := 18) (v := 1) hx hb dX11_checkValue_18 (by decide) ?_
  refine z_iast (pc := 19) hx hb hK hT 1 1 rfl rfl (by decide) (by decide) dX11_checkValue_19 (upd (kc 0) 1 1) (fun _ _ => rfl) [(h0, .inr (11, [.ref h2, .ref h3, .ref h4, .ref h5, .ref h6, .ref h7, .ref h8, .ref h9, .ref h10, .ref h11, .ref h1, .int (-1), .int (-1), .int (-1), .int (-1)])), (h1, .inl (cy 0, 3, .inl (upd (kc 0) 1 1)))] rfl (fun H locs hT => ?_)
  exact z_throwA (pc := 20) hl0 hx hb hml hown hts hlk htab hE hT hl.1 (Nat.le_of_ble_eq_true rfl) (Nat.le_of_ble_eq_true rfl) (Nat.le_of_ble_eq_true rfl) dX11_checkValue_20 dX11_checkValue_23 dX11_checkValue_24 dX11_checkValue_27 dX11_checkValue_30
set_option maxHeartbeats 4000000 in
set_option maxRecDepth 100000 in
theorem k574_X11_worst (l : Launch) (G : va_G) (cy : Nat → ClassId) (hl0 : l.stackTraces = false) (h0 h1 h2 h3 h4 h5 h6 h7 h8 h9 h10 h11 : Nat) (x0 : Int32) (n0 : Nat) (n1 : Nat) (hlon0 : 0 ≤ n0) (hhin0 : n0 < 6) (hlon1 : 0 ≤ n1) (hhin1 : n1 < 9) (hf0 : ¬ (x0 : Int32) < 0) (hf1 : (1 : Int32) < x0) : zX l G cy yX11_worst cX11_worst 4 (some .int) 2 [.ref h0, .int (nI n0), .int (nI n1), .int x0] [(h0, .inr (11, [.ref h2, .ref h3, .ref h4, .ref h5, .ref h6, .ref h7, .ref h8, .ref h9, .ref h10, .ref h11, .ref h1, .int (-1), .int (-1), .int (-1), .int (-1)])), (h1, .inl (cy 0, 3, .inl (kc 0)))] "java/lang/IllegalArgumentException" zNI := by
  refine zX.of (by decide) (Nat.le_of_ble_eq_true rfl) ?_
  intro p e s m args below meth c ls A hx hb hml hown hts hlk htab hl hK hE hA hT
  have hown : s.vm.findClass "CostBench" = some m.cls := hown
  have hl : lv_has ls 4 [(0, .ref h0), (1, .int (nI n0)), (2, .int (nI n1)), (3, .int x0)] := hl
  refine lv_aload_n (pc := 0) hx hb dX11_worst_0 rfl (lv_at hl 0 rfl) ?_
  refine lv_iload_n (pc := 1) hx hb dX11_worst_1 rfl (lv_at hl 1 rfl) ?_
  refine z_cVV (pc := 2) hx hb hml hown hts hK hA hT lkV_RX11_99 (k26_X11_checkSlot l G cy h0 h2 h3 h4 h5 h6 h7 h8 h9 h10 h11 h1 n0 (by omega) (by omega)) [0] [1] rfl rfl rfl rfl rfl 0 rfl rfl (by decide) rfl hl.1 rfl (Nat.le_of_ble_eq_true rfl) dX11_worst_2 ⟨Nat.le_of_ble_eq_true rfl, Nat.le_of_ble_eq_true rfl⟩ (fun _ => [(h1, .inl (cy 0, 3, .inl (kc 0))), (h0, .inr (11, [.ref h2, .ref h3, .ref h4, .ref h5, .ref h6, .ref h7, .ref h8, .ref h9, .ref h10, .ref h11, .ref h1, .int (-1), .int (-1), .int (-1), .int (-1)]))]) (fun _ => rfl) (fun qs1 H locs hT => ?_)
  refine lv_aload_n (pc := 5) hx hb dX11_worst_5 rfl (lv_at hl 0 rfl) ?_
  refine lv_iload_n (pc := 6) hx hb dX11_worst_6 rfl (lv_at hl 2 rfl) ?_
  refine lv_iconst (pc := 7) (v := 0) hx hb dX11_worst_7 (by decide) ?_
  refine lv_bipush (pc := 8) (v := 8) hx hb dX11_worst_8 (by decide) ?_
  refine z_cVV (pc := 10) hx hb hml hown hts hK hA hT lkV_RX11_106 (k207_X11_checkValue l G cy h0 h2 h3 h4 h5 h6 h7 h8 h9 h10 h11 h1 n1 (by omega) (by omega)) [1] [0] rfl rfl rfl rfl rfl 0 rfl rfl (by decide) rfl hl.1 rfl (Nat.le_of_ble_eq_true rfl) dX11_worst_10 ⟨Nat.le_of_ble_eq_true rfl, Nat.le_of_ble_eq_true rfl⟩ (fun _ => [(h1, .inl (cy 0, 3, .inl (kc 0))), (h0, .inr (11, [.ref h2, .ref h3, .ref h4, .ref h5, .ref h6, .ref h7, .ref h8, .ref h9, .ref h10, .ref h11, .ref h1, .int (-1), .int (-1), .int (-1), .int (-1)]))]) (fun _ => rfl) (fun qs2 H locs hT => ?_)
  refine lv_aload_n (pc := 13) hx hb dX11_worst_13 rfl (lv_at hl 0 rfl) ?_
  refine lv_iload_n (pc := 14) hx hb dX11_worst_14 rfl (lv_at hl 3 rfl) ?_
  refine lv_iconst (pc := 15) (v := 0) hx hb dX11_worst_15 (by decide) ?_
  refine lv_iconst (pc := 16) (v := 1) hx hb dX11_worst_16 (by decide) ?_
  exact z_cVX (pc := 17) hx hb hml hown hts hlk htab hK hE hA hT lkV_RX11_106 (k573_X11_checkValue l G cy hl0 h0 h1 h2 h3 h4 h5 h6 h7 h8 h9 h10 h11 x0 hf0 hf1) [1, 0] rfl rfl 0 rfl rfl (by decide) rfl hl.1 rfl (Nat.le_of_ble_eq_true rfl) dX11_worst_17 (Nat.le_of_ble_eq_true rfl) (Nat.le_of_ble_eq_true rfl)
set_option maxHeartbeats 4000000 in
set_option maxRecDepth 100000 in
theorem k575_X11_paths (l : Launch) (G : va_G) (cy : Nat → ClassId) (hl0 : l.stackTraces = false) (h0 h1 h2 h3 h4 h5 h6 h7 h8 h9 h10 h11 : Nat) (x0 : Int32) (x1 : Int32) (hf0 : (x0 : Int32) < 0) : zX l G cy yX11_paths cX11_paths 3 (some .long) 2 [.ref h0, .int x0, .int x1] [(h0, .inr (11, [.ref h2, .ref h3, .ref h4, .ref h5, .ref h6, .ref h7, .ref h8, .ref h9, .ref h10, .ref h11, .ref h1, .int (-1), .int (-1), .int (-1), .int (-1)])), (h1, .inl (cy 0, 3, .inl (kc 0)))] "java/util/NoSuchElementException" zNJ := by
  refine zX.of (by decide) (Nat.le_of_ble_eq_true rfl) ?_
  intro p e s m args below meth c ls A hx hb hml hown hts hlk htab hl hK hE hA hT
  have hown : s.vm.findClass "CostBench" = some m.cls := hown
  have hl : lv_has ls 3 [(0, .ref h0), (1, .int x0), (2, .int x1)] := hl
  refine lv_aload_n (pc := 0) hx hb dX11_paths_0 rfl (lv_at hl 0 rfl) ?_
  refine lv_iload_n (pc := 1) hx hb dX11_paths_1 rfl (lv_at hl 1 rfl) ?_
  exact z_cVX (pc := 2) hx hb hml hown hts hlk htab hK hE hA hT lkV_RX11_99 (k504_X11_checkSlot l G cy hl0 h0 h1 h2 h3 h4 h5 h6 h7 h8 h9 h10 h11 x0 hf0) [0, 1] rfl rfl 0 rfl rfl (by decide) rfl hl.1 rfl (Nat.le_of_ble_eq_true rfl) dX11_paths_2 (Nat.le_of_ble_eq_true rfl) (Nat.le_of_ble_eq_true rfl)
set_option maxHeartbeats 4000000 in
set_option maxRecDepth 100000 in
theorem k576_X11_paths (l : Launch) (G : va_G) (cy : Nat → ClassId) (hl0 : l.stackTraces = false) (h0 h1 h2 h3 h4 h5 h6 h7 h8 h9 h10 h11 : Nat) (x0 : Int32) (x1 : Int32) (hf0 : ¬ (x0 : Int32) < 0) (hf1 : ¬ (x0 : Int32) < 6) : zX l G cy yX11_paths cX11_paths 3 (some .long) 2 [.ref h0, .int x0, .int x1] [(h0, .inr (11, [.ref h2, .ref h3, .ref h4, .ref h5, .ref h6, .ref h7, .ref h8, .ref h9, .ref h10, .ref h11, .ref h1, .int (-1), .int (-1), .int (-1), .int (-1)])), (h1, .inl (cy 0, 3, .inl (kc 0)))] "java/util/NoSuchElementException" zNJ := by
  refine zX.of (by decide) (Nat.le_of_ble_eq_true rfl) ?_
  intro p e s m args below meth c ls A hx hb hml hown hts hlk htab hl hK hE hA hT
  have hown : s.vm.findClass "CostBench" = some m.cls := hown
  have hl : lv_has ls 3 [(0, .ref h0), (1, .int x0), (2, .int x1)] := hl
  refine lv_aload_n (pc := 0) hx hb dX11_paths_0 rfl (lv_at hl 0 rfl) ?_
  refine lv_iload_n (pc := 1) hx hb dX11_paths_1 rfl (lv_at hl 1 rfl) ?_
  exact z_cVX (pc := 2) hx hb hml hown hts hlk htab hK hE hA hT lkV_RX11_99 (k507_X11_checkSlot l G cy hl0 h0 h1 h2 h3 h4 h5 h6 h7 h8 h9 h10 h11 x0 hf0 hf1) [0, 1] rfl rfl 0 rfl rfl (by decide) rfl hl.1 rfl (Nat.le_of_ble_eq_true rfl) dX11_paths_2 (Nat.le_of_ble_eq_true rfl) (Nat.le_of_ble_eq_true rfl)
set_option maxHeartbeats 4000000 in
set_option maxRecDepth 100000 in
theorem k577_X11_checkValue (l : Launch) (G : va_G) (cy : Nat → ClassId) (hl0 : l.stackTraces = false) (h0 h1 h2 h3 h4 h5 h6 h7 h8 h9 h10 h11 : Nat) (x0 : Int32) (hf0 : (x0 : Int32) < 0) : zX l G cy yX11_checkValue cX11_checkValue 4 none 0 [.ref h0, .int x0, .int 0, .int 30] [(h0, .inr (11, [.ref h2, .ref h3, .ref h4, .ref h5, .ref h6, .ref h7, .ref h8, .ref h9, .ref h10, .ref h11, .ref h1, .int (-1), .int (-1), .int (-1), .int (-1)])), (h1, .inl (cy 0, 3, .inl (kc 0)))] "java/lang/IllegalArgumentException" zNV := by
  refine zX.of (by decide) (Nat.le_of_ble_eq_true rfl) ?_
  intro p e s m args below meth c ls A hx hb hml hown hts hlk htab hl hK hE hA hT
  have hown : s.vm.findClass "CostBench" = some m.cls := hown
  have hl : lv_has ls 4 [(0, .ref h0), (1, .int x0), (2, .int 0), (3, .int 30)] := hl
  refine lv_iload_n (pc := 0) hx hb dX11_checkValue_0 rfl (lv_at hl 1 rfl) ?_
  refine lv_iload_n (pc := 1) hx hb dX11_checkValue_1 rfl (lv_at hl 2 rfl) ?_
  refine zb_icmp_lt_t (pc := 2) (tgt := 10) hx hb dX11_checkValue_2 (by decide) hf0 ?_
  refine lv_aload_n (pc := 10) hx hb dX11_checkValue_10 rfl (lv_at hl 0 rfl) ?_
  refine z_get (pc := 11) hx hb hts hown hK hT 0 11 10 rfl rfl (by decide) rfl w3_19 rfl dX11_checkValue_11 ?_
  refine lv_iconst (pc := 14) (v := 1) hx hb dX11_checkValue_14 (by decide) ?_
  refine lv_dup2_11 (pc := 15) hx hb dX11_checkValue_15 rfl rfl ?_
  refine z_iald (pc := 16) (v := 0) hx hb hK hT 1 1 rfl rfl (by decide) (by decide) rfl dX11_checkValue_16 ?_
  refine lv_iconst (pc := 17) (v := 1) hx hb dX11_checkValue_17 (by decide) ?_
  refine z_iadd (pc := 18) (v := 1) hx hb dX11_checkValue_18 (by decide) ?_
  refine z_iast (pc := 19) hx hb hK hT 1 1 rfl rfl (by decide) (by decide) dX11_checkValue_19 (upd (kc 0) 1 1) (fun _ _ => rfl) [(h0, .inr (11, [.ref h2, .ref h3, .ref h4, .ref h5, .ref h6, .ref h7, .ref h8, .ref h9, .ref h10, .ref h11, .ref h1, .int (-1), .int (-1), .int (-1), .int (-1)])), (h1, .inl (cy 0, 3, .inl (upd (kc 0) 1 1)))] rfl (fun H locs hT => ?_)
  exact z_throwA (pc := 20) hl0 hx hb hml hown hts hlk htab hE hT hl.1 (Nat.le_of_ble_eq_true rfl) (Nat.le_of_ble_eq_true rfl) (Nat.le_of_ble_eq_true rfl) dX11_checkValue_20 dX11_checkValue_23 dX11_checkValue_24 dX11_checkValue_27 dX11_checkValue_30
set_option maxHeartbeats 4000000 in
set_option maxRecDepth 100000 in
theorem k578_X11_paths (l : Launch) (G : va_G) (cy : Nat → ClassId) (hl0 : l.stackTraces = false) (h0 h1 h2 h3 h4 h5 h6 h7 h8 h9 h10 h11 : Nat) (x0 : Int32) (n0 : Nat) (hlon0 : 0 ≤ n0) (hhin0 : n0 < 6) (hf0 : (x0 : Int32) < 0) : zX l G cy yX11_paths cX11_paths 3 (some .long) 2 [.ref h0, .int (nI n0), .int x0] [(h0, .inr (11, [.ref h2, .ref h3, .ref h4, .ref h5, .ref h6, .ref h7, .ref h8, .ref h9, .ref h10, .ref h11, .ref h1, .int (-1), .int (-1), .int (-1), .int (-1)])), (h1, .inl (cy 0, 3, .inl (kc 0)))] "java/lang/IllegalArgumentException" zNJ := by
  refine zX.of (by decide) (Nat.le_of_ble_eq_true rfl) ?_
  intro p e s m args below meth c ls A hx hb hml hown hts hlk htab hl hK hE hA hT
  have hown : s.vm.findClass "CostBench" = some m.cls := hown
  have hl : lv_has ls 3 [(0, .ref h0), (1, .int (nI n0)), (2, .int x0)] := hl
  refine lv_aload_n (pc := 0) hx hb dX11_paths_0 rfl (lv_at hl 0 rfl) ?_
  refine lv_iload_n (pc := 1) hx hb dX11_paths_1 rfl (lv_at hl 1 rfl) ?_
  refine z_cVV (pc := 2) hx hb hml hown hts hK hA hT lkV_RX11_99 (k26_X11_checkSlot l G cy h0 h2 h3 h4 h5 h6 h7 h8 h9 h10 h11 h1 n0 (by omega) (by omega)) [0] [1] rfl rfl rfl rfl rfl 0 rfl rfl (by decide) rfl hl.1 rfl (Nat.le_of_ble_eq_true rfl) dX11_paths_2 ⟨Nat.le_of_ble_eq_true rfl, Nat.le_of_ble_eq_true rfl⟩ (fun _ => [(h1, .inl (cy 0, 3, .inl (kc 0))), (h0, .inr (11, [.ref h2, .ref h3, .ref h4, .ref h5, .ref h6, .ref h7, .ref h8, .ref h9, .ref h10, .ref h11, .ref h1, .int (-1), .int (-1), .int (-1), .int (-1)]))]) (fun _ => rfl) (fun qs1 H locs hT => ?_)
  refine lv_aload_n (pc := 5) hx hb dX11_paths_5 rfl (lv_at hl 0 rfl) ?_
  refine lv_iload_n (pc := 6) hx hb dX11_paths_6 rfl (lv_at hl 2 rfl) ?_
  refine lv_iconst (pc := 7) (v := 0) hx hb dX11_paths_7 (by decide) ?_
  refine lv_bipush (pc := 8) (v := 30) hx hb dX11_paths_8 (by decide) ?_
  exact z_cVX (pc := 10) hx hb hml hown hts hlk htab hK hE hA hT lkV_RX11_106 (k577_X11_checkValue l G cy hl0 h0 h1 h2 h3 h4 h5 h6 h7 h8 h9 h10 h11 x0 hf0) [1, 0] rfl rfl 0 rfl rfl (by decide) rfl hl.1 rfl (Nat.le_of_ble_eq_true rfl) dX11_paths_10 (Nat.le_of_ble_eq_true rfl) (Nat.le_of_ble_eq_true rfl)
set_option maxHeartbeats 4000000 in
set_option maxRecDepth 100000 in
theorem k579_X11_checkValue (l : Launch) (G : va_G) (cy : Nat → ClassId) (hl0 : l.stackTraces = false) (h0 h1 h2 h3 h4 h5 h6 h7 h8 h9 h10 h11 : Nat) (x0 : Int32) (hf0 : ¬ (x0 : Int32) < 0) (hf1 : (30 : Int32) < x0) : zX l G cy yX11_checkValue cX11_checkValue 4 none 0 [.ref h0, .int x0, .int 0, .int 30] [(h0, .inr (11, [.ref h2, .ref h3, .ref h4, .ref h5, .ref h6, .ref h7, .ref h8, .ref h9, .ref h10, .ref h11, .ref h1, .int (-1), .int (-1), .int (-1), .int (-1)])), (h1, .inl (cy 0, 3, .inl (kc 0)))] "java/lang/IllegalArgumentException" zNV := by
  refine zX.of (by decide) (Nat.le_of_ble_eq_true rfl) ?_
  intro p e s m args below meth c ls A hx hb hml hown hts hlk htab hl hK hE hA hT
  have hown : s.vm.findClass "CostBench" = some m.cls := hown
  have hl : lv_has ls 4 [(0, .ref h0), (1, .int x0), (2, .int 0), (3, .int 30)] := hl
  refine lv_iload_n (pc := 0) hx hb dX11_checkValue_0 rfl (lv_at hl 1 rfl) ?_
  refine lv_iload_n (pc := 1) hx hb dX11_checkValue_1 rfl (lv_at hl 2 rfl) ?_
  refine zb_icmp_lt_f (pc := 2) (tgt := 10) hx hb dX11_checkValue_2 (by decide) hf0 ?_
  refine lv_iload_n (pc := 5) hx hb dX11_checkValue_5 rfl (lv_at hl 1 rfl) ?_
  refine lv_iload_n (pc := 6) hx hb dX11_checkValue_6 rfl (lv_at hl 3 rfl) ?_
  refine zb_icmp_le_f (pc := 7) (tgt := 31) hx hb dX11_checkValue_7 (by decide) (znle_of_lt hf1) ?_
  refine lv_aload_n (pc := 10) hx hb dX11_checkValue_10 rfl (lv_at hl 0 rfl) ?_
  refine z_get (pc := 11) hx hb hts hown hK hT 0 11 10 rfl rfl (by decide) rfl w3_19 rfl dX11_checkValue_11 ?_
  refine lv_iconst (pc := 14) (v := 1) hx hb dX11_checkValue_14 (by decide) ?_
  refine lv_dup2_11 (pc := 15) hx hb dX11_checkValue_15 rfl rfl ?_
  refine z_iald (pc := 16) (v := 0) hx hb hK hT 1 1 rfl rfl (by decide) (by decide) rfl dX11_checkValue_16 ?_
  refine lv_iconst (pc := 17) (v := 1) hx hb dX11_checkValue_17 (by decide) ?_
  refine z_iadd (pc := 18) (v := 1) hx hb dX11_checkValue_18 (by decide) ?_
  refine z_iast (pc := 19) hx hb hK hT 1 1 rfl rfl (by decide) (by decide) dX11_checkValue_19 (upd (kc 0) 1 1) (fun _ _ => rfl) [(h0, .inr (11, [.ref h2, .ref h3, .ref h4, .ref h5, .ref h6, .ref h7, .ref h8, .ref h9, .ref h10, .ref h11, .ref h1, .int (-1), .int (-1), .int (-1), .int (-1)])), (h1, .inl (cy 0, 3, .inl (upd (kc 0) 1 1)))] rfl (fun H locs hT => ?_)
  exact z_throwA (pc := 20) hl0 hx hb hml hown hts hlk htab hE hT hl.1 (Nat.le_of_ble_eq_true rfl) (Nat.le_of_ble_eq_true rfl) (Nat.le_of_ble_eq_true rfl) dX11_checkValue_20 dX11_checkValue_23 dX11_checkValue_24 dX11_checkValue_27 dX11_checkValue_30
set_option maxHeartbeats 4000000 in
set_option maxRecDepth 100000 in
theorem k580_X11_paths (l : Launch) (G : va_G) (cy : Nat → ClassId) (hl0 : l.stackTraces = false) (h0 h1 h2 h3 h4 h5 h6 h7 h8 h9 h10 h11 : Nat) (x0 : Int32) (n0 : Nat) (hlon0 : 0 ≤ n0) (hhin0 : n0 < 6) (hf0 : ¬ (x0 : Int32) < 0) (hf1 : (30 : Int32) < x0) : zX l G cy yX11_paths cX11_paths 3 (some .long) 2 [.ref h0, .int (nI n0), .int x0] [(h0, .inr (11, [.ref h2, .ref h3, .ref h4, .ref h5, .ref h6, .ref h7, .ref h8, .ref h9, .ref h10, .ref h11, .ref h1, .int (-1), .int (-1), .int (-1), .int (-1)])), (h1, .inl (cy 0, 3, .inl (kc 0)))] "java/lang/IllegalArgumentException" zNJ := by
  refine zX.of (by decide) (Nat.le_of_ble_eq_true rfl) ?_
  intro p e s m args below meth c ls A hx hb hml hown hts hlk htab hl hK hE hA hT
  have hown : s.vm.findClass "CostBench" = some m.cls := hown
  have hl : lv_has ls 3 [(0, .ref h0), (1, .int (nI n0)), (2, .int x0)] := hl
  refine lv_aload_n (pc := 0) hx hb dX11_paths_0 rfl (lv_at hl 0 rfl) ?_
  refine lv_iload_n (pc := 1) hx hb dX11_paths_1 rfl (lv_at hl 1 rfl) ?_
  refine z_cVV (pc := 2) hx hb hml hown hts hK hA hT lkV_RX11_99 (k26_X11_checkSlot l G cy h0 h2 h3 h4 h5 h6 h7 h8 h9 h10 h11 h1 n0 (by omega) (by omega)) [0] [1] rfl rfl rfl rfl rfl 0 rfl rfl (by decide) rfl hl.1 rfl (Nat.le_of_ble_eq_true rfl) dX11_paths_2 ⟨Nat.le_of_ble_eq_true rfl, Nat.le_of_ble_eq_true rfl⟩ (fun _ => [(h1, .inl (cy 0, 3, .inl (kc 0))), (h0, .inr (11, [.ref h2, .ref h3, .ref h4, .ref h5, .ref h6, .ref h7, .ref h8, .ref h9, .ref h10, .ref h11, .ref h1, .int (-1), .int (-1), .int (-1), .int (-1)]))]) (fun _ => rfl) (fun qs1 H locs hT => ?_)
  refine lv_aload_n (pc := 5) hx hb dX11_paths_5 rfl (lv_at hl 0 rfl) ?_
  refine lv_iload_n (pc := 6) hx hb dX11_paths_6 rfl (lv_at hl 2 rfl) ?_
  refine lv_iconst (pc := 7) (v := 0) hx hb dX11_paths_7 (by decide) ?_
  refine lv_bipush (pc := 8) (v := 30) hx hb dX11_paths_8 (by decide) ?_
  exact z_cVX (pc := 10) hx hb hml hown hts hlk htab hK hE hA hT lkV_RX11_106 (k579_X11_checkValue l G cy hl0 h0 h1 h2 h3 h4 h5 h6 h7 h8 h9 h10 h11 x0 hf0 hf1) [1, 0] rfl rfl 0 rfl rfl (by decide) rfl hl.1 rfl (Nat.le_of_ble_eq_true rfl) dX11_paths_10 (Nat.le_of_ble_eq_true rfl) (Nat.le_of_ble_eq_true rfl)
set_option maxHeartbeats 4000000 in
set_option maxRecDepth 100000 in
theorem k581_X11_apart (l : Launch) (G : va_G) (cy : Nat → ClassId) (hl0 : l.stackTraces = false) (h0 h1 h2 h3 h4 h5 h6 h7 h8 h9 h10 h11 : Nat) (x0 : Int32) (x1 : Int32) (x2 : Int32) (hf0 : (x0 : Int32) < 0) : zX l G cy yX11_apart cX11_apart 4 (some .int) 2 [.ref h0, .int x0, .int x1, .int x2] [(h0, .inr (11, [.ref h2, .ref h3, .ref h4, .ref h5, .ref h6, .ref h7, .ref h8, .ref h9, .ref h10, .ref h11, .ref h1, .int (-1), .int (-1), .int (-1), .int (-1)])), (h1, .inl (cy 0, 3, .inl (kc 0)))] "java/util/NoSuchElementException" zNI := by
  refine zX.of (by decide) (Nat.le_of_ble_eq_true rfl) ?_
  intro p e s m args below meth c ls A hx hb hml hown hts hlk htab hl hK hE hA hT
  have hown : s.vm.findClass "CostBench" = some m.cls := hown
  have hl : lv_has ls 4 [(0, .ref h0), (1, .int x0), (2, .int x1), (3, .int x2)] := hl
  refine lv_aload_n (pc := 0) hx hb dX11_apart_0 rfl (lv_at hl 0 rfl) ?_
  refine lv_iload_n (pc := 1) hx hb dX11_apart_1 rfl (lv_at hl 1 rfl) ?_
  exact z_cVX (pc := 2) hx hb hml hown hts hlk htab hK hE hA hT lkV_RX11_99 (k504_X11_checkSlot l G cy hl0 h0 h1 h2 h3 h4 h5 h6 h7 h8 h9 h10 h11 x0 hf0) [0, 1] rfl rfl 0 rfl rfl (by decide) rfl hl.1 rfl (Nat.le_of_ble_eq_true rfl) dX11_apart_2 (Nat.le_of_ble_eq_true rfl) (Nat.le_of_ble_eq_true rfl)
set_option maxHeartbeats 4000000 in
set_option maxRecDepth 100000 in
theorem k582_X11_apart (l : Launch) (G : va_G) (cy : Nat → ClassId) (hl0 : l.stackTraces = false) (h0 h1 h2 h3 h4 h5 h6 h7 h8 h9 h10 h11 : Nat) (x0 : Int32) (x1 : Int32) (x2 : Int32) (hf0 : ¬ (x0 : Int32) < 0) (hf1 : ¬ (x0 : Int32) < 6) : zX l G cy yX11_apart cX11_apart 4 (some .int) 2 [.ref h0, .int x0, .int x1, .int x2] [(h0, .inr (11, [.ref h2, .ref h3, .ref h4, .ref h5, .ref h6, .ref h7, .ref h8, .ref h9, .ref h10, .ref h11, .ref h1, .int (-1), .int (-1), .int (-1), .int (-1)])), (h1, .inl (cy 0, 3, .inl (kc 0)))] "java/util/NoSuchElementException" zNI := by
  refine zX.of (by decide) (Nat.le_of_ble_eq_true rfl) ?_
  intro p e s m args below meth c ls A hx hb hml hown hts hlk htab hl hK hE hA hT
  have hown : s.vm.findClass "CostBench" = some m.cls := hown
  have hl : lv_has ls 4 [(0, .ref h0), (1, .int x0), (2, .int x1), (3, .int x2)] := hl
  refine lv_aload_n (pc := 0) hx hb dX11_apart_0 rfl (lv_at hl 0 rfl) ?_
  refine lv_iload_n (pc := 1) hx hb dX11_apart_1 rfl (lv_at hl 1 rfl) ?_
  exact z_cVX (pc := 2) hx hb hml hown hts hlk htab hK hE hA hT lkV_RX11_99 (k507_X11_checkSlot l G cy hl0 h0 h1 h2 h3 h4 h5 h6 h7 h8 h9 h10 h11 x0 hf0 hf1) [0, 1] rfl rfl 0 rfl rfl (by decide) rfl hl.1 rfl (Nat.le_of_ble_eq_true rfl) dX11_apart_2 (Nat.le_of_ble_eq_true rfl) (Nat.le_of_ble_eq_true rfl)
set_option maxHeartbeats 4000000 in
set_option maxRecDepth 100000 in
theorem k583_X11_apart (l : Launch) (G : va_G) (cy : Nat → ClassId) (hl0 : l.stackTraces = false) (h0 h1 h2 h3 h4 h5 h6 h7 h8 h9 h10 h11 : Nat) (x0 : Int32) (x1 : Int32) (n0 : Nat) (hlon0 : 0 ≤ n0) (hhin0 : n0 < 6) (hf0 : (x0 : Int32) < 0) : zX l G cy yX11_apart cX11_apart 4 (some .int) 2 [.ref h0, .int (nI n0), .int x0, .int x1] [(h0, .inr (11, [.ref h2, .ref h3, .ref h4, .ref h5, .ref h6, .ref h7, .ref h8, .ref h9, .ref h10, .ref h11, .ref h1, .int (-1), .int (-1), .int (-1), .int (-1)])), (h1, .inl (cy 0, 3, .inl (kc 0)))] "java/util/NoSuchElementException" zNI := by
  refine zX.of (by decide) (Nat.le_of_ble_eq_true rfl) ?_
  intro p e s m args below meth c ls A hx hb hml hown hts hlk htab hl hK hE hA hT
  have hown : s.vm.findClass "CostBench" = some m.cls := hown
  have hl : lv_has ls 4 [(0, .ref h0), (1, .int (nI n0)), (2, .int x0), (3, .int x1)] := hl
  refine lv_aload_n (pc := 0) hx hb dX11_apart_0 rfl (lv_at hl 0 rfl) ?_
  refine lv_iload_n (pc := 1) hx hb dX11_apart_1 rfl (lv_at hl 1 rfl) ?_
  refine z_cVV (pc := 2) hx hb hml hown hts hK hA hT lkV_RX11_99 (k26_X11_checkSlot l G cy h0 h2 h3 h4 h5 h6 h7 h8 h9 h10 h11 h1 n0 (by omega) (by omega)) [0] [1] rfl rfl rfl rfl rfl 0 rfl rfl (by decide) rfl hl.1 rfl (Nat.le_of_ble_eq_true rfl) dX11_apart_2 ⟨Nat.le_of_ble_eq_true rfl, Nat.le_of_ble_eq_true rfl⟩ (fun _ => [(h1, .inl (cy 0, 3, .inl (kc 0))), (h0, .inr (11, [.ref h2, .ref h3, .ref h4, .ref h5, .ref h6, .ref h7, .ref h8, .ref h9, .ref h10, .ref h11, .ref h1, .int (-1), .int (-1), .int (-1), .int (-1)]))]) (fun _ => rfl) (fun qs1 H locs hT => ?_)
  refine lv_aload_n (pc := 5) hx hb dX11_apart_5 rfl (lv_at hl 0 rfl) ?_
  refine lv_iload_n (pc := 6) hx hb dX11_apart_6 rfl (lv_at hl 2 rfl) ?_
  exact z_cVX (pc := 7) hx hb hml hown hts hlk htab hK hE hA hT lkV_RX11_99 (k504_X11_checkSlot l G cy hl0 h0 h1 h2 h3 h4 h5 h6 h7 h8 h9 h10 h11 x0 hf0) [1, 0] rfl rfl 0 rfl rfl (by decide) rfl hl.1 rfl (Nat.le_of_ble_eq_true rfl) dX11_apart_7 (Nat.le_of_ble_eq_true rfl) (Nat.le_of_ble_eq_true rfl)
set_option maxHeartbeats 4000000 in
set_option maxRecDepth 100000 in
theorem k584_X11_apart (l : Launch) (G : va_G) (cy : Nat → ClassId) (hl0 : l.stackTraces = false) (h0 h1 h2 h3 h4 h5 h6 h7 h8 h9 h10 h11 : Nat) (x0 : Int32) (x1 : Int32) (n0 : Nat) (hlon0 : 0 ≤ n0) (hhin0 : n0 < 6) (hf0 : ¬ (x0 : Int32) < 0) (hf1 : ¬ (x0 : Int32) < 6) : zX l G cy yX11_apart cX11_apart 4 (some .int) 2 [.ref h0, .int (nI n0), .int x0, .int x1] [(h0, .inr (11, [.ref h2, .ref h3, .ref h4, .ref h5, .ref h6, .ref h7, .ref h8, .ref h9, .ref h10, .ref h11, .ref h1, .int (-1), .int (-1), .int (-1), .int (-1)])), (h1, .inl (cy 0, 3, .inl (kc 0)))] "java/util/NoSuchElementException" zNI := by
  refine zX.of (by decide) (Nat.le_of_ble_eq_true rfl) ?_
  intro p e s m args below meth c ls A hx hb hml hown hts hlk htab hl hK hE hA hT
  have hown : s.vm.findClass "CostBench" = some m.cls := hown
  have hl : lv_has ls 4 [(0, .ref h0), (1, .int (nI n0)), (2, .int x0), (3, .int x1)] := hl
  refine lv_aload_n (pc := 0) hx hb dX11_apart_0 rfl (lv_at hl 0 rfl) ?_
  refine lv_iload_n (pc := 1) hx hb dX11_apart_1 rfl (lv_at hl 1 rfl) ?_
  refine z_cVV (pc := 2) hx hb hml hown hts hK hA hT lkV_RX11_99 (k26_X11_checkSlot l G cy h0 h2 h3 h4 h5 h6 h7 h8 h9 h10 h11 h1 n0 (by omega) (by omega)) [0] [1] rfl rfl rfl rfl rfl 0 rfl rfl (by decide) rfl hl.1 rfl (Nat.le_of_ble_eq_true rfl) dX11_apart_2 ⟨Nat.le_of_ble_eq_true rfl, Nat.le_of_ble_eq_true rfl⟩ (fun _ => [(h1, .inl (cy 0, 3, .inl (kc 0))), (h0, .inr (11, [.ref h2, .ref h3, .ref h4, .ref h5, .ref h6, .ref h7, .ref h8, .ref h9, .ref h10, .ref h11, .ref h1, .int (-1), .int (-1), .int (-1), .int (-1)]))]) (fun _ => rfl) (fun qs1 H locs hT => ?_)
  refine lv_aload_n (pc := 5) hx hb dX11_apart_5 rfl (lv_at hl 0 rfl) ?_
  refine lv_iload_n (pc := 6) hx hb dX11_apart_6 rfl (lv_at hl 2 rfl) ?_
  exact z_cVX (pc := 7) hx hb hml hown hts hlk htab hK hE hA hT lkV_RX11_99 (k507_X11_checkSlot l G cy hl0 h0 h1 h2 h3 h4 h5 h6 h7 h8 h9 h10 h11 x0 hf0 hf1) [1, 0] rfl rfl 0 rfl rfl (by decide) rfl hl.1 rfl (Nat.le_of_ble_eq_true rfl) dX11_apart_7 (Nat.le_of_ble_eq_true rfl) (Nat.le_of_ble_eq_true rfl)
set_option maxHeartbeats 4000000 in
set_option maxRecDepth 100000 in
theorem k585_X11_twins (l : Launch) (G : va_G) (cy : Nat → ClassId) (hl0 : l.stackTraces = false) (h0 h1 h2 h3 h4 h5 h6 h7 h8 h9 h10 h11 : Nat) (x0 : Int32) (hf0 : (x0 : Int32) < 0) : zX l G cy yX11_twins cX11_twins 2 (some .int) 2 [.ref h0, .int x0] [(h0, .inr (11, [.ref h2, .ref h3, .ref h4, .ref h5, .ref h6, .ref h7, .ref h8, .ref h9, .ref h10, .ref h11, .ref h1, .int (-1), .int (-1), .int (-1), .int (-1)])), (h1, .inl (cy 0, 3, .inl (kc 0)))] "java/util/NoSuchElementException" zNI := by
  refine zX.of (by decide) (Nat.le_of_ble_eq_true rfl) ?_
  intro p e s m args below meth c ls A hx hb hml hown hts hlk htab hl hK hE hA hT
  have hown : s.vm.findClass "CostBench" = some m.cls := hown
  have hl : lv_has ls 2 [(0, .ref h0), (1, .int x0)] := hl
  refine lv_aload_n (pc := 0) hx hb dX11_twins_0 rfl (lv_at hl 0 rfl) ?_
  refine lv_iload_n (pc := 1) hx hb dX11_twins_1 rfl (lv_at hl 1 rfl) ?_
  exact z_cVX (pc := 2) hx hb hml hown hts hlk htab hK hE hA hT lkV_RX11_99 (k504_X11_checkSlot l G cy hl0 h0 h1 h2 h3 h4 h5 h6 h7 h8 h9 h10 h11 x0 hf0) [0, 1] rfl rfl 0 rfl rfl (by decide) rfl hl.1 rfl (Nat.le_of_ble_eq_true rfl) dX11_twins_2 (Nat.le_of_ble_eq_true rfl) (Nat.le_of_ble_eq_true rfl)
set_option maxHeartbeats 4000000 in
set_option maxRecDepth 100000 in
theorem k586_X11_twins (l : Launch) (G : va_G) (cy : Nat → ClassId) (hl0 : l.stackTraces = false) (h0 h1 h2 h3 h4 h5 h6 h7 h8 h9 h10 h11 : Nat) (x0 : Int32) (hf0 : ¬ (x0 : Int32) < 0) (hf1 : ¬ (x0 : Int32) < 6) : zX l G cy yX11_twins cX11_twins 2 (some .int) 2 [.ref h0, .int x0] [(h0, .inr (11, [.ref h2, .ref h3, .ref h4, .ref h5, .ref h6, .ref h7, .ref h8, .ref h9, .ref h10, .ref h11, .ref h1, .int (-1), .int (-1), .int (-1), .int (-1)])), (h1, .inl (cy 0, 3, .inl (kc 0)))] "java/util/NoSuchElementException" zNI := by
  refine zX.of (by decide) (Nat.le_of_ble_eq_true rfl) ?_
  intro p e s m args below meth c ls A hx hb hml hown hts hlk htab hl hK hE hA hT
  have hown : s.vm.findClass "CostBench" = some m.cls := hown
  have hl : lv_has ls 2 [(0, .ref h0), (1, .int x0)] := hl
  refine lv_aload_n (pc := 0) hx hb dX11_twins_0 rfl (lv_at hl 0 rfl) ?_
  refine lv_iload_n (pc := 1) hx hb dX11_twins_1 rfl (lv_at hl 1 rfl) ?_
  exact z_cVX (pc := 2) hx hb hml hown hts hlk htab hK hE hA hT lkV_RX11_99 (k507_X11_checkSlot l G cy hl0 h0 h1 h2 h3 h4 h5 h6 h7 h8 h9 h10 h11 x0 hf0 hf1) [0, 1] rfl rfl 0 rfl rfl (by decide) rfl hl.1 rfl (Nat.le_of_ble_eq_true rfl) dX11_twins_2 (Nat.le_of_ble_eq_true rfl) (Nat.le_of_ble_eq_true rfl)
set_option maxHeartbeats 4000000 in
set_option maxRecDepth 100000 in
theorem k587_X11_parting (l : Launch) (G : va_G) (cy : Nat → ClassId) (hl0 : l.stackTraces = false) (h0 h1 h2 h3 h4 h5 h6 h7 h8 h9 h10 h11 : Nat) (x0 : Int32) (x1 : Int32) (hf0 : (x0 : Int32) < 0) : zX l G cy yX11_parting cX11_parting 3 (some .long) 2 [.ref h0, .int x0, .int x1] [(h0, .inr (11, [.ref h2, .ref h3, .ref h4, .ref h5, .ref h6, .ref h7, .ref h8, .ref h9, .ref h10, .ref h11, .ref h1, .int (-1), .int (-1), .int (-1), .int (-1)])), (h1, .inl (cy 0, 3, .inl (kc 0)))] "java/util/NoSuchElementException" zNJ := by
  refine zX.of (by decide) (Nat.le_of_ble_eq_true rfl) ?_
  intro p e s m args below meth c ls A hx hb hml hown hts hlk htab hl hK hE hA hT
  have hown : s.vm.findClass "CostBench" = some m.cls := hown
  have hl : lv_has ls 3 [(0, .ref h0), (1, .int x0), (2, .int x1)] := hl
  refine lv_aload_n (pc := 0) hx hb dX11_parting_0 rfl (lv_at hl 0 rfl) ?_
  refine lv_iload_n (pc := 1) hx hb dX11_parting_1 rfl (lv_at hl 1 rfl) ?_
  exact z_cVX (pc := 2) hx hb hml hown hts hlk htab hK hE hA hT lkV_RX11_99 (k504_X11_checkSlot l G cy hl0 h0 h1 h2 h3 h4 h5 h6 h7 h8 h9 h10 h11 x0 hf0) [0, 1] rfl rfl 0 rfl rfl (by decide) rfl hl.1 rfl (Nat.le_of_ble_eq_true rfl) dX11_parting_2 (Nat.le_of_ble_eq_true rfl) (Nat.le_of_ble_eq_true rfl)
set_option maxHeartbeats 4000000 in
set_option maxRecDepth 100000 in
theorem k588_X11_parting (l : Launch) (G : va_G) (cy : Nat → ClassId) (hl0 : l.stackTraces = false) (h0 h1 h2 h3 h4 h5 h6 h7 h8 h9 h10 h11 : Nat) (x0 : Int32) (x1 : Int32) (hf0 : ¬ (x0 : Int32) < 0) (hf1 : ¬ (x0 : Int32) < 6) : zX l G cy yX11_parting cX11_parting 3 (some .long) 2 [.ref h0, .int x0, .int x1] [(h0, .inr (11, [.ref h2, .ref h3, .ref h4, .ref h5, .ref h6, .ref h7, .ref h8, .ref h9, .ref h10, .ref h11, .ref h1, .int (-1), .int (-1), .int (-1), .int (-1)])), (h1, .inl (cy 0, 3, .inl (kc 0)))] "java/util/NoSuchElementException" zNJ := by
  refine zX.of (by decide) (Nat.le_of_ble_eq_true rfl) ?_
  intro p e s m args below meth c ls A hx hb hml hown hts hlk htab hl hK hE hA hT
  have hown : s.vm.findClass "CostBench" = some m.cls := hown
  have hl : lv_has ls 3 [(0, .ref h0), (1, .int x0), (2, .int x1)] := hl
  refine lv_aload_n (pc := 0) hx hb dX11_parting_0 rfl (lv_at hl 0 rfl) ?_
  refine lv_iload_n (pc := 1) hx hb dX11_parting_1 rfl (lv_at hl 1 rfl) ?_
  exact z_cVX (pc := 2) hx hb hml hown hts hlk htab hK hE hA hT lkV_RX11_99 (k507_X11_checkSlot l G cy hl0 h0 h1 h2 h3 h4 h5 h6 h7 h8 h9 h10 h11 x0 hf0 hf1) [0, 1] rfl rfl 0 rfl rfl (by decide) rfl hl.1 rfl (Nat.le_of_ble_eq_true rfl) dX11_parting_2 (Nat.le_of_ble_eq_true rfl) (Nat.le_of_ble_eq_true rfl)
set_option maxHeartbeats 4000000 in
set_option maxRecDepth 100000 in
theorem k589_X11_checkValue (l : Launch) (G : va_G) (cy : Nat → ClassId) (hl0 : l.stackTraces = false) (h0 h1 h2 h3 h4 h5 h6 h7 h8 h9 h10 h11 : Nat) (x0 : Int32) (hf0 : (x0 : Int32) < 0) : zX l G cy yX11_checkValue cX11_checkValue 4 none 0 [.ref h0, .int x0, .int 0, .int 4] [(h0, .inr (11, [.ref h2, .ref h3, .ref h4, .ref h5, .ref h6, .ref h7, .ref h8, .ref h9, .ref h10, .ref h11, .ref h1, .int (-1), .int (-1), .int (-1), .int (-1)])), (h1, .inl (cy 0, 3, .inl (kc 0)))] "java/lang/IllegalArgumentException" zNV := by
  refine zX.of (by decide) (Nat.le_of_ble_eq_true rfl) ?_
  intro p e s m args below meth c ls A hx hb hml hown hts hlk htab hl hK hE hA hT
  have hown : s.vm.findClass "CostBench" = some m.cls := hown
  have hl : lv_has ls 4 [(0, .ref h0), (1, .int x0), (2, .int 0), (3, .int 4)] := hl
  refine lv_iload_n (pc := 0) hx hb dX11_checkValue_0 rfl (lv_at hl 1 rfl) ?_
  refine lv_iload_n (pc := 1) hx hb dX11_checkValue_1 rfl (lv_at hl 2 rfl) ?_
  refine zb_icmp_lt_t (pc := 2) (tgt := 10) hx hb dX11_checkValue_2 (by decide) hf0 ?_
  refine lv_aload_n (pc := 10) hx hb dX11_checkValue_10 rfl (lv_at hl 0 rfl) ?_
  refine z_get (pc := 11) hx hb hts hown hK hT 0 11 10 rfl rfl (by decide) rfl w3_19 rfl dX11_checkValue_11 ?_
  refine lv_iconst (pc := 14) (v := 1) hx hb dX11_checkValue_14 (by decide) ?_
  refine lv_dup2_11 (pc := 15) hx hb dX11_checkValue_15 rfl rfl ?_
  refine z_iald (pc := 16) (v := 0) hx hb hK hT 1 1 rfl rfl (by decide) (by decide) rfl dX11_checkValue_16 ?_
  refine lv_iconst (pc := 17) (v := 1) hx hb dX11_checkValue_17 (by decide) ?_
  refine z_iadd (pc := 18) (v := 1) hx hb dX11_checkValue_18 (by decide) ?_
  refine z_iast (pc := 19) hx hb hK hT 1 1 rfl rfl (by decide) (by decide) dX11_checkValue_19 (upd (kc 0) 1 1) (fun _ _ => rfl) [(h0, .inr (11, [.ref h2, .ref h3, .ref h4, .ref h5, .ref h6, .ref h7, .ref h8, .ref h9, .ref h10, .ref h11, .ref h1, .int (-1), .int (-1), .int (-1), .int (-1)])), (h1, .inl (cy 0, 3, .inl (upd (kc 0) 1 1)))] rfl (fun H locs hT => ?_)
  exact z_throwA (pc := 20) hl0 hx hb hml hown hts hlk htab hE hT hl.1 (Nat.le_of_ble_eq_true rfl) (Nat.le_of_ble_eq_true rfl) (Nat.le_of_ble_eq_true rfl) dX11_checkValue_20 dX11_checkValue_23 dX11_checkValue_24 dX11_checkValue_27 dX11_checkValue_30
set_option maxHeartbeats 4000000 in
set_option maxRecDepth 100000 in
theorem k590_X11_parting (l : Launch) (G : va_G) (cy : Nat → ClassId) (hl0 : l.stackTraces = false) (h0 h1 h2 h3 h4 h5 h6 h7 h8 h9 h10 h11 : Nat) (x0 : Int32) (n0 : Nat) (hlon0 : 0 ≤ n0) (hhin0 : n0 < 6) (hf0 : (x0 : Int32) < 0) : zX l G cy yX11_parting cX11_parting 3 (some .long) 2 [.ref h0, .int (nI n0), .int x0] [(h0, .inr (11, [.ref h2, .ref h3, .ref h4, .ref h5, .ref h6, .ref h7, .ref h8, .ref h9, .ref h10, .ref h11, .ref h1, .int (-1), .int (-1), .int (-1), .int (-1)])), (h1, .inl (cy 0, 3, .inl (kc 0)))] "java/lang/IllegalArgumentException" zNJ := by
  refine zX.of (by decide) (Nat.le_of_ble_eq_true rfl) ?_
  intro p e s m args below meth c ls A hx hb hml hown hts hlk htab hl hK hE hA hT
  have hown : s.vm.findClass "CostBench" = some m.cls := hown
  have hl : lv_has ls 3 [(0, .ref h0), (1, .int (nI n0)), (2, .int x0)] := hl
  refine lv_aload_n (pc := 0) hx hb dX11_parting_0 rfl (lv_at hl 0 rfl) ?_
  refine lv_iload_n (pc := 1) hx hb dX11_parting_1 rfl (lv_at hl 1 rfl) ?_
  refine z_cVV (pc := 2) hx hb hml hown hts hK hA hT lkV_RX11_99 (k26_X11_checkSlot l G cy h0 h2 h3 h4 h5 h6 h7 h8 h9 h10 h11 h1 n0 (by omega) (by omega)) [0] [1] rfl rfl rfl rfl rfl 0 rfl rfl (by decide) rfl hl.1 rfl (Nat.le_of_ble_eq_true rfl) dX11_parting_2 ⟨Nat.le_of_ble_eq_true rfl, Nat.le_of_ble_eq_true rfl⟩ (fun _ => [(h1, .inl (cy 0, 3, .inl (kc 0))), (h0, .inr (11, [.ref h2, .ref h3, .ref h4, .ref h5, .ref h6, .ref h7, .ref h8, .ref h9, .ref h10, .ref h11, .ref h1, .int (-1), .int (-1), .int (-1), .int (-1)]))]) (fun _ => rfl) (fun qs1 H locs hT => ?_)
  refine lv_aload_n (pc := 5) hx hb dX11_parting_5 rfl (lv_at hl 0 rfl) ?_
  refine lv_iload_n (pc := 6) hx hb dX11_parting_6 rfl (lv_at hl 2 rfl) ?_
  refine lv_iconst (pc := 7) (v := 0) hx hb dX11_parting_7 (by decide) ?_
  refine lv_iconst (pc := 8) (v := 4) hx hb dX11_parting_8 (by decide) ?_
  exact z_cVX (pc := 9) hx hb hml hown hts hlk htab hK hE hA hT lkV_RX11_106 (k589_X11_checkValue l G cy hl0 h0 h1 h2 h3 h4 h5 h6 h7 h8 h9 h10 h11 x0 hf0) [1, 0] rfl rfl 0 rfl rfl (by decide) rfl hl.1 rfl (Nat.le_of_ble_eq_true rfl) dX11_parting_9 (Nat.le_of_ble_eq_true rfl) (Nat.le_of_ble_eq_true rfl)
set_option maxHeartbeats 4000000 in
set_option maxRecDepth 100000 in
theorem k591_X11_checkValue (l : Launch) (G : va_G) (cy : Nat → ClassId) (hl0 : l.stackTraces = false) (h0 h1 h2 h3 h4 h5 h6 h7 h8 h9 h10 h11 : Nat) (x0 : Int32) (hf0 : ¬ (x0 : Int32) < 0) (hf1 : (4 : Int32) < x0) : zX l G cy yX11_checkValue cX11_checkValue 4 none 0 [.ref h0, .int x0, .int 0, .int 4] [(h0, .inr (11, [.ref h2, .ref h3, .ref h4, .ref h5, .ref h6, .ref h7, .ref h8, .ref h9, .ref h10, .ref h11, .ref h1, .int (-1), .int (-1), .int (-1), .int (-1)])), (h1, .inl (cy 0, 3, .inl (kc 0)))] "java/lang/IllegalArgumentException" zNV := by
  refine zX.of (by decide) (Nat.le_of_ble_eq_true rfl) ?_
  intro p e s m args below meth c ls A hx hb hml hown hts hlk htab hl hK hE hA hT
  have hown : s.vm.findClass "CostBench" = some m.cls := hown
  have hl : lv_has ls 4 [(0, .ref h0), (1, .int x0), (2, .int 0), (3, .int 4)] := hl
  refine lv_iload_n (pc := 0) hx hb dX11_checkValue_0 rfl (lv_at hl 1 rfl) ?_
  refine lv_iload_n (pc := 1) hx hb dX11_checkValue_1 rfl (lv_at hl 2 rfl) ?_
  refine zb_icmp_lt_f (pc := 2) (tgt := 10) hx hb dX11_checkValue_2 (by decide) hf0 ?_
  refine lv_iload_n (pc := 5) hx hb dX11_checkValue_5 rfl (lv_at hl 1 rfl) ?_
  refine lv_iload_n (pc := 6) hx hb dX11_checkValue_6 rfl (lv_at hl 3 rfl) ?_
  refine zb_icmp_le_f (pc := 7) (tgt := 31) hx hb dX11_checkValue_7 (by decide) (znle_of_lt hf1) ?_
  refine lv_aload_n (pc := 10) hx hb dX11_checkValue_10 rfl (lv_at hl 0 rfl) ?_
  refine z_get (pc := 11) hx hb hts hown hK hT 0 11 10 rfl rfl (by decide) rfl w3_19 rfl dX11_checkValue_11 ?_
  refine lv_iconst (pc := 14) (v := 1) hx hb dX11_checkValue_14 (by decide) ?_
  refine lv_dup2_11 (pc := 15) hx hb dX11_checkValue_15 rfl rfl ?_
  refine z_iald (pc := 16) (v := 0) hx hb hK hT 1 1 rfl rfl (by decide) (by decide) rfl dX11_checkValue_16 ?_
  refine lv_iconst (pc := 17) (v := 1) hx hb dX11_checkValue_17 (by decide) ?_
  refine z_iadd (pc := 18) (v := 1) hx hb dX11_checkValue_18 (by decide) ?_
  refine z_iast (pc := 19) hx hb hK hT 1 1 rfl rfl (by decide) (by decide) dX11_checkValue_19 (upd (kc 0) 1 1) (fun _ _ => rfl) [(h0, .inr (11, [.ref h2, .ref h3, .ref h4, .ref h5, .ref h6, .ref h7, .ref h8, .ref h9, .ref h10, .ref h11, .ref h1, .int (-1), .int (-1), .int (-1), .int (-1)])), (h1, .inl (cy 0, 3, .inl (upd (kc 0) 1 1)))] rfl (fun H locs hT => ?_)
  exact z_throwA (pc := 20) hl0 hx hb hml hown hts hlk htab hE hT hl.1 (Nat.le_of_ble_eq_true rfl) (Nat.le_of_ble_eq_true rfl) (Nat.le_of_ble_eq_true rfl) dX11_checkValue_20 dX11_checkValue_23 dX11_checkValue_24 dX11_checkValue_27 dX11_checkValue_30
set_option maxHeartbeats 4000000 in
set_option maxRecDepth 100000 in
theorem k592_X11_parting (l : Launch) (G : va_G) (cy : Nat → ClassId) (hl0 : l.stackTraces = false) (h0 h1 h2 h3 h4 h5 h6 h7 h8 h9 h10 h11 : Nat) (x0 : Int32) (n0 : Nat) (hlon0 : 0 ≤ n0) (hhin0 : n0 < 6) (hf0 : ¬ (x0 : Int32) < 0) (hf1 : (4 : Int32) < x0) : zX l G cy yX11_parting cX11_parting 3 (some .long) 2 [.ref h0, .int (nI n0), .int x0] [(h0, .inr (11, [.ref h2, .ref h3, .ref h4, .ref h5, .ref h6, .ref h7, .ref h8, .ref h9, .ref h10, .ref h11, .ref h1, .int (-1), .int (-1), .int (-1), .int (-1)])), (h1, .inl (cy 0, 3, .inl (kc 0)))] "java/lang/IllegalArgumentException" zNJ := by
  refine zX.of (by decide) (Nat.le_of_ble_eq_true rfl) ?_
  intro p e s m args below meth c ls A hx hb hml hown hts hlk htab hl hK hE hA hT
  have hown : s.vm.findClass "CostBench" = some m.cls := hown
  have hl : lv_has ls 3 [(0, .ref h0), (1, .int (nI n0)), (2, .int x0)] := hl
  refine lv_aload_n (pc := 0) hx hb dX11_parting_0 rfl (lv_at hl 0 rfl) ?_
  refine lv_iload_n (pc := 1) hx hb dX11_parting_1 rfl (lv_at hl 1 rfl) ?_
  refine z_cVV (pc := 2) hx hb hml hown hts hK hA hT lkV_RX11_99 (k26_X11_checkSlot l G cy h0 h2 h3 h4 h5 h6 h7 h8 h9 h10 h11 h1 n0 (by omega) (by omega)) [0] [1] rfl rfl rfl rfl rfl 0 rfl rfl (by decide) rfl hl.1 rfl (Nat.le_of_ble_eq_true rfl) dX11_parting_2 ⟨Nat.le_of_ble_eq_true rfl, Nat.le_of_ble_eq_true rfl⟩ (fun _ => [(h1, .inl (cy 0, 3, .inl (kc 0))), (h0, .inr (11, [.ref h2, .ref h3, .ref h4, .ref h5, .ref h6, .ref h7, .ref h8, .ref h9, .ref h10, .ref h11, .ref h1, .int (-1), .int (-1), .int (-1), .int (-1)]))]) (fun _ => rfl) (fun qs1 H locs hT => ?_)
  refine lv_aload_n (pc := 5) hx hb dX11_parting_5 rfl (lv_at hl 0 rfl) ?_
  refine lv_iload_n (pc := 6) hx hb dX11_parting_6 rfl (lv_at hl 2 rfl) ?_
  refine lv_iconst (pc := 7) (v := 0) hx hb dX11_parting_7 (by decide) ?_
  refine lv_iconst (pc := 8) (v := 4) hx hb dX11_parting_8 (by decide) ?_
  exact z_cVX (pc := 9) hx hb hml hown hts hlk htab hK hE hA hT lkV_RX11_106 (k591_X11_checkValue l G cy hl0 h0 h1 h2 h3 h4 h5 h6 h7 h8 h9 h10 h11 x0 hf0 hf1) [1, 0] rfl rfl 0 rfl rfl (by decide) rfl hl.1 rfl (Nat.le_of_ble_eq_true rfl) dX11_parting_9 (Nat.le_of_ble_eq_true rfl) (Nat.le_of_ble_eq_true rfl)
set_option maxHeartbeats 4000000 in
set_option maxRecDepth 100000 in
theorem k593_X11_partingAt (l : Launch) (G : va_G) (cy : Nat → ClassId) (hl0 : l.stackTraces = false) (h0 h1 h2 h3 h4 h5 h6 h7 h8 h9 h10 h11 : Nat) (x0 : Int32) (x1 : Int32) (x2 : Int32) (hf0 : (x0 : Int32) < 0) : zX l G cy yX11_partingAt cX11_partingAt 5 (some .int) 2 [.ref h0, .int x0, .int x1, .int x2] [(h0, .inr (11, [.ref h2, .ref h3, .ref h4, .ref h5, .ref h6, .ref h7, .ref h8, .ref h9, .ref h10, .ref h11, .ref h1, .int (-1), .int (-1), .int (-1), .int (-1)])), (h1, .inl (cy 0, 3, .inl (kc 0)))] "java/util/NoSuchElementException" zNI := by
  refine zX.of (by decide) (Nat.le_of_ble_eq_true rfl) ?_
  intro p e s m args below meth c ls A hx hb hml hown hts hlk htab hl hK hE hA hT
  have hown : s.vm.findClass "CostBench" = some m.cls := hown
  have hl : lv_has ls 5 [(0, .ref h0), (1, .int x0), (2, .int x1), (3, .int x2)] := hl
  refine lv_aload_n (pc := 0) hx hb dX11_partingAt_0 rfl (lv_at hl 0 rfl) ?_
  refine lv_iload_n (pc := 1) hx hb dX11_partingAt_1 rfl (lv_at hl 1 rfl) ?_
  exact z_cVX (pc := 2) hx hb hml hown hts hlk htab hK hE hA hT lkV_RX11_99 (k504_X11_checkSlot l G cy hl0 h0 h1 h2 h3 h4 h5 h6 h7 h8 h9 h10 h11 x0 hf0) [0, 1] rfl rfl 0 rfl rfl (by decide) rfl hl.1 rfl (Nat.le_of_ble_eq_true rfl) dX11_partingAt_2 (Nat.le_of_ble_eq_true rfl) (Nat.le_of_ble_eq_true rfl)
set_option maxHeartbeats 4000000 in
set_option maxRecDepth 100000 in
theorem k594_X11_partingAt (l : Launch) (G : va_G) (cy : Nat → ClassId) (hl0 : l.stackTraces = false) (h0 h1 h2 h3 h4 h5 h6 h7 h8 h9 h10 h11 : Nat) (x0 : Int32) (x1 : Int32) (x2 : Int32) (hf0 : ¬ (x0 : Int32) < 0) (hf1 : ¬ (x0 : Int32) < 6) : zX l G cy yX11_partingAt cX11_partingAt 5 (some .int) 2 [.ref h0, .int x0, .int x1, .int x2] [(h0, .inr (11, [.ref h2, .ref h3, .ref h4, .ref h5, .ref h6, .ref h7, .ref h8, .ref h9, .ref h10, .ref h11, .ref h1, .int (-1), .int (-1), .int (-1), .int (-1)])), (h1, .inl (cy 0, 3, .inl (kc 0)))] "java/util/NoSuchElementException" zNI := by
  refine zX.of (by decide) (Nat.le_of_ble_eq_true rfl) ?_
  intro p e s m args below meth c ls A hx hb hml hown hts hlk htab hl hK hE hA hT
  have hown : s.vm.findClass "CostBench" = some m.cls := hown
  have hl : lv_has ls 5 [(0, .ref h0), (1, .int x0), (2, .int x1), (3, .int x2)] := hl
  refine lv_aload_n (pc := 0) hx hb dX11_partingAt_0 rfl (lv_at hl 0 rfl) ?_
  refine lv_iload_n (pc := 1) hx hb dX11_partingAt_1 rfl (lv_at hl 1 rfl) ?_
  exact z_cVX (pc := 2) hx hb hml hown hts hlk htab hK hE hA hT lkV_RX11_99 (k507_X11_checkSlot l G cy hl0 h0 h1 h2 h3 h4 h5 h6 h7 h8 h9 h10 h11 x0 hf0 hf1) [0, 1] rfl rfl 0 rfl rfl (by decide) rfl hl.1 rfl (Nat.le_of_ble_eq_true rfl) dX11_partingAt_2 (Nat.le_of_ble_eq_true rfl) (Nat.le_of_ble_eq_true rfl)
set_option maxHeartbeats 4000000 in
set_option maxRecDepth 100000 in
theorem k595_X11_partingAt (l : Launch) (G : va_G) (cy : Nat → ClassId) (hl0 : l.stackTraces = false) (h0 h1 h2 h3 h4 h5 h6 h7 h8 h9 h10 h11 : Nat) (x0 : Int32) (x1 : Int32) (n0 : Nat) (hlon0 : 0 ≤ n0) (hhin0 : n0 < 6) (hf0 : (x0 : Int32) < 0) : zX l G cy yX11_partingAt cX11_partingAt 5 (some .int) 2 [.ref h0, .int (nI n0), .int x0, .int x1] [(h0, .inr (11, [.ref h2, .ref h3, .ref h4, .ref h5, .ref h6, .ref h7, .ref h8, .ref h9, .ref h10, .ref h11, .ref h1, .int (-1), .int (-1), .int (-1), .int (-1)])), (h1, .inl (cy 0, 3, .inl (kc 0)))] "java/lang/IllegalArgumentException" zNI := by
  refine zX.of (by decide) (Nat.le_of_ble_eq_true rfl) ?_
  intro p e s m args below meth c ls A hx hb hml hown hts hlk htab hl hK hE hA hT
  have hown : s.vm.findClass "CostBench" = some m.cls := hown
  have hl : lv_has ls 5 [(0, .ref h0), (1, .int (nI n0)), (2, .int x0), (3, .int x1)] := hl
  refine lv_aload_n (pc := 0) hx hb dX11_partingAt_0 rfl (lv_at hl 0 rfl) ?_
  refine lv_iload_n (pc := 1) hx hb dX11_partingAt_1 rfl (lv_at hl 1 rfl) ?_
  refine z_cVV (pc := 2) hx hb hml hown hts hK hA hT lkV_RX11_99 (k26_X11_checkSlot l G cy h0 h2 h3 h4 h5 h6 h7 h8 h9 h10 h11 h1 n0 (by omega) (by omega)) [0] [1] rfl rfl rfl rfl rfl 0 rfl rfl (by decide) rfl hl.1 rfl (Nat.le_of_ble_eq_true rfl) dX11_partingAt_2 ⟨Nat.le_of_ble_eq_true rfl, Nat.le_of_ble_eq_true rfl⟩ (fun _ => [(h1, .inl (cy 0, 3, .inl (kc 0))), (h0, .inr (11, [.ref h2, .ref h3, .ref h4, .ref h5, .ref h6, .ref h7, .ref h8, .ref h9, .ref h10, .ref h11, .ref h1, .int (-1), .int (-1), .int (-1), .int (-1)]))]) (fun _ => rfl) (fun qs1 H locs hT => ?_)
  refine lv_aload_n (pc := 5) hx hb dX11_partingAt_5 rfl (lv_at hl 0 rfl) ?_
  refine lv_iload_n (pc := 6) hx hb dX11_partingAt_6 rfl (lv_at hl 2 rfl) ?_
  refine lv_iconst (pc := 7) (v := 0) hx hb dX11_partingAt_7 (by decide) ?_
  refine lv_iconst (pc := 8) (v := 1) hx hb dX11_partingAt_8 (by decide) ?_
  exact z_cVX (pc := 9) hx hb hml hown hts hlk htab hK hE hA hT lkV_RX11_106 (k571_X11_checkValue l G cy hl0 h0 h1 h2 h3 h4 h5 h6 h7 h8 h9 h10 h11 x0 hf0) [1, 0] rfl rfl 0 rfl rfl (by decide) rfl hl.1 rfl (Nat.le_of_ble_eq_true rfl) dX11_partingAt_9 (Nat.le_of_ble_eq_true rfl) (Nat.le_of_ble_eq_true rfl)
set_option maxHeartbeats 4000000 in
set_option maxRecDepth 100000 in
theorem k596_X11_partingAt (l : Launch) (G : va_G) (cy : Nat → ClassId) (hl0 : l.stackTraces = false) (h0 h1 h2 h3 h4 h5 h6 h7 h8 h9 h10 h11 : Nat) (x0 : Int32) (x1 : Int32) (n0 : Nat) (hlon0 : 0 ≤ n0) (hhin0 : n0 < 6) (hf0 : ¬ (x0 : Int32) < 0) (hf1 : (1 : Int32) < x0) : zX l G cy yX11_partingAt cX11_partingAt 5 (some .int) 2 [.ref h0, .int (nI n0), .int x0, .int x1] [(h0, .inr (11, [.ref h2, .ref h3, .ref h4, .ref h5, .ref h6, .ref h7, .ref h8, .ref h9, .ref h10, .ref h11, .ref h1, .int (-1), .int (-1), .int (-1), .int (-1)])), (h1, .inl (cy 0, 3, .inl (kc 0)))] "java/lang/IllegalArgumentException" zNI := by
  refine zX.of (by decide) (Nat.le_of_ble_eq_true rfl) ?_
  intro p e s m args below meth c ls A hx hb hml hown hts hlk htab hl hK hE hA hT
  have hown : s.vm.findClass "CostBench" = some m.cls := hown
  have hl : lv_has ls 5 [(0, .ref h0), (1, .int (nI n0)), (2, .int x0), (3, .int x1)] := hl
  refine lv_aload_n (pc := 0) hx hb dX11_partingAt_0 rfl (lv_at hl 0 rfl) ?_
  refine lv_iload_n (pc := 1) hx hb dX11_partingAt_1 rfl (lv_at hl 1 rfl) ?_
  refine z_cVV (pc := 2) hx hb hml hown hts hK hA hT lkV_RX11_99 (k26_X11_checkSlot l G cy h0 h2 h3 h4 h5 h6 h7 h8 h9 h10 h11 h1 n0 (by omega) (by omega)) [0] [1] rfl rfl rfl rfl rfl 0 rfl rfl (by decide) rfl hl.1 rfl (Nat.le_of_ble_eq_true rfl) dX11_partingAt_2 ⟨Nat.le_of_ble_eq_true rfl, Nat.le_of_ble_eq_true rfl⟩ (fun _ => [(h1, .inl (cy 0, 3, .inl (kc 0))), (h0, .inr (11, [.ref h2, .ref h3, .ref h4, .ref h5, .ref h6, .ref h7, .ref h8, .ref h9, .ref h10, .ref h11, .ref h1, .int (-1), .int (-1), .int (-1), .int (-1)]))]) (fun _ => rfl) (fun qs1 H locs hT => ?_)
  refine lv_aload_n (pc := 5) hx hb dX11_partingAt_5 rfl (lv_at hl 0 rfl) ?_
  refine lv_iload_n (pc := 6) hx hb dX11_partingAt_6 rfl (lv_at hl 2 rfl) ?_
  refine lv_iconst (pc := 7) (v := 0) hx hb dX11_partingAt_7 (by decide) ?_
  refine lv_iconst (pc := 8) (v := 1) hx hb dX11_partingAt_8 (by decide) ?_
  exact z_cVX (pc := 9) hx hb hml hown hts hlk htab hK hE hA hT lkV_RX11_106 (k573_X11_checkValue l G cy hl0 h0 h1 h2 h3 h4 h5 h6 h7 h8 h9 h10 h11 x0 hf0 hf1) [1, 0] rfl rfl 0 rfl rfl (by decide) rfl hl.1 rfl (Nat.le_of_ble_eq_true rfl) dX11_partingAt_9 (Nat.le_of_ble_eq_true rfl) (Nat.le_of_ble_eq_true rfl)
set_option maxHeartbeats 4000000 in
set_option maxRecDepth 100000 in
theorem k597_X11_ahead (l : Launch) (G : va_G) (cy : Nat → ClassId) (hl0 : l.stackTraces = false) (h0 h1 h2 h3 h4 h5 h6 h7 h8 h9 h10 h11 : Nat) (x0 : Int32) (x1 : Int32) (hf0 : (x0 : Int32) < 0) : zX l G cy yX11_ahead cX11_ahead 3 (some .int) 2 [.ref h0, .int x0, .int x1] [(h0, .inr (11, [.ref h2, .ref h3, .ref h4, .ref h5, .ref h6, .ref h7, .ref h8, .ref h9, .ref h10, .ref h11, .ref h1, .int (-1), .int (-1), .int (-1), .int (-1)])), (h1, .inl (cy 0, 3, .inl (kc 0)))] "java/util/NoSuchElementException" zNI := by
  refine zX.of (by decide) (Nat.le_of_ble_eq_true rfl) ?_
  intro p e s m args below meth c ls A hx hb hml hown hts hlk htab hl hK hE hA hT
  have hown : s.vm.findClass "CostBench" = some m.cls := hown
  have hl : lv_has ls 3 [(0, .ref h0), (1, .int x0), (2, .int x1)] := hl
  refine lv_aload_n (pc := 0) hx hb dX11_ahead_0 rfl (lv_at hl 0 rfl) ?_
  refine lv_iload_n (pc := 1) hx hb dX11_ahead_1 rfl (lv_at hl 1 rfl) ?_
  exact z_cVX (pc := 2) hx hb hml hown hts hlk htab hK hE hA hT lkV_RX11_99 (k504_X11_checkSlot l G cy hl0 h0 h1 h2 h3 h4 h5 h6 h7 h8 h9 h10 h11 x0 hf0) [0, 1] rfl rfl 0 rfl rfl (by decide) rfl hl.1 rfl (Nat.le_of_ble_eq_true rfl) dX11_ahead_2 (Nat.le_of_ble_eq_true rfl) (Nat.le_of_ble_eq_true rfl)
set_option maxHeartbeats 4000000 in
set_option maxRecDepth 100000 in
theorem k598_X11_ahead (l : Launch) (G : va_G) (cy : Nat → ClassId) (hl0 : l.stackTraces = false) (h0 h1 h2 h3 h4 h5 h6 h7 h8 h9 h10 h11 : Nat) (x0 : Int32) (x1 : Int32) (hf0 : ¬ (x0 : Int32) < 0) (hf1 : ¬ (x0 : Int32) < 6) : zX l G cy yX11_ahead cX11_ahead 3 (some .int) 2 [.ref h0, .int x0, .int x1] [(h0, .inr (11, [.ref h2, .ref h3, .ref h4, .ref h5, .ref h6, .ref h7, .ref h8, .ref h9, .ref h10, .ref h11, .ref h1, .int (-1), .int (-1), .int (-1), .int (-1)])), (h1, .inl (cy 0, 3, .inl (kc 0)))] "java/util/NoSuchElementException" zNI := by
  refine zX.of (by decide) (Nat.le_of_ble_eq_true rfl) ?_
  intro p e s m args below meth c ls A hx hb hml hown hts hlk htab hl hK hE hA hT
  have hown : s.vm.findClass "CostBench" = some m.cls := hown
  have hl : lv_has ls 3 [(0, .ref h0), (1, .int x0), (2, .int x1)] := hl
  refine lv_aload_n (pc := 0) hx hb dX11_ahead_0 rfl (lv_at hl 0 rfl) ?_
  refine lv_iload_n (pc := 1) hx hb dX11_ahead_1 rfl (lv_at hl 1 rfl) ?_
  exact z_cVX (pc := 2) hx hb hml hown hts hlk htab hK hE hA hT lkV_RX11_99 (k507_X11_checkSlot l G cy hl0 h0 h1 h2 h3 h4 h5 h6 h7 h8 h9 h10 h11 x0 hf0 hf1) [0, 1] rfl rfl 0 rfl rfl (by decide) rfl hl.1 rfl (Nat.le_of_ble_eq_true rfl) dX11_ahead_2 (Nat.le_of_ble_eq_true rfl) (Nat.le_of_ble_eq_true rfl)
set_option maxHeartbeats 4000000 in
set_option maxRecDepth 100000 in
theorem k599_X11_ahead (l : Launch) (G : va_G) (cy : Nat → ClassId) (hl0 : l.stackTraces = false) (h0 h1 h2 h3 h4 h5 h6 h7 h8 h9 h10 h11 h12 h13 h14 h15 h16 h17 h18 h19 h20 h21 : Nat) (x0 : Int32) (n0 : Nat) (g0 : Nat → Nat) (hlon0 : 0 ≤ n0) (hhin0 : n0 < 6) (hf0 : (x0 : Int32) < 0) : zX l G cy yX11_ahead cX11_ahead 3 (some .int) 2 [.ref h0, .int (nI n0), .int x0] [(h0, .inr (11, [.ref h1, .ref h3, .ref h4, .ref h5, .ref h6, .ref h7, .ref h8, .ref h9, .ref h10, .ref h11, .ref h2, .int (-1), .int (-1), .int (-1), .int (-1)])), (h1, .inl (cy 3, 6, .inr (.inr (.inr (.inr (fun i => some (g0 i))))))), ((g0 n0), .inr (3, [.int 1, .int 0, .int 0, .int 0, .ref h12, .ref h13, .ref h14, .ref h15, .ref h16, .ref h17, .ref h18, .ref h19, .ref h20, .ref h21])), (h2, .inl (cy 0, 3, .inl (kc 0)))] "java/util/NoSuchElementException" zNI := by
  refine zX.of (by decide) (Nat.le_of_ble_eq_true rfl) ?_
  intro p e s m args below meth c ls A hx hb hml hown hts hlk htab hl hK hE hA hT
  have hown : s.vm.findClass "CostBench" = some m.cls := hown
  have hl : lv_has ls 3 [(0, .ref h0), (1, .int (nI n0)), (2, .int x0)] := hl
  refine lv_aload_n (pc := 0) hx hb dX11_ahead_0 rfl (lv_at hl 0 rfl) ?_
  refine lv_iload_n (pc := 1) hx hb dX11_ahead_1 rfl (lv_at hl 1 rfl) ?_
  refine z_cVV (pc := 2) hx hb hml hown hts hK hA hT lkV_RX11_99 (k26_X11_checkSlot l G cy h0 h1 h3 h4 h5 h6 h7 h8 h9 h10 h11 h2 n0 (by omega) (by omega)) [0] [1, 2, 3] rfl rfl rfl rfl rfl 0 rfl rfl (by decide) rfl hl.1 rfl (Nat.le_of_ble_eq_true rfl) dX11_ahead_2 ⟨Nat.le_of_ble_eq_true rfl, Nat.le_of_ble_eq_true rfl⟩ (fun _ => [(h1, .inl (cy 3, 6, .inr (.inr (.inr (.inr (fun i => some (g0 i))))))), ((g0 n0), .inr (3, [.int 1, .int 0, .int 0, .int 0, .ref h12, .ref h13, .ref h14, .ref h15, .ref h16, .ref h17, .ref h18, .ref h19, .ref h20, .ref h21])), (h2, .inl (cy 0, 3, .inl (kc 0))), (h0, .inr (11, [.ref h1, .ref h3, .ref h4, .ref h5, .ref h6, .ref h7, .ref h8, .ref h9, .ref h10, .ref h11, .ref h2, .int (-1), .int (-1), .int (-1), .int (-1)]))]) (fun _ => rfl) (fun qs1 H locs hT => ?_)
  refine lv_aload_n (pc := 5) hx hb dX11_ahead_5 rfl (lv_at hl 0 rfl) ?_
  refine lv_iload_n (pc := 6) hx hb dX11_ahead_6 rfl (lv_at hl 2 rfl) ?_
  refine lv_aload_n (pc := 7) hx hb dX11_ahead_7 rfl (lv_at hl 0 rfl) ?_
  refine z_get (pc := 8) hx hb hts hown hK hT 3 11 0 rfl rfl (by decide) rfl w3_9 rfl dX11_ahead_8 ?_
  refine lv_iload_n (pc := 11) hx hb dX11_ahead_11 rfl (lv_at hl 1 rfl) ?_
  refine z_aaldN (pc := 12) hx hb hK hT 0 3 n0 rfl rfl rfl rfl (by omega) (by decide) rfl dX11_ahead_12 ?_
  refine z_get (pc := 13) hx hb hts hown hK hT 1 3 0 rfl rfl (by decide) rfl w1_56 rfl dX11_ahead_13 ?_
  exact z_cVX (pc := 16) hx hb hml hown hts hlk htab hK hE hA hT lkV_RX11_176 (k539_X11_checkThere l G cy hl0 h0 h2 h1 h3 h4 h5 h6 h7 h8 h9 h10 h11 x0 hf0) [3, 2] rfl rfl 0 rfl rfl (by decide) rfl hl.1 rfl (Nat.le_of_ble_eq_true rfl) dX11_ahead_16 (Nat.le_of_ble_eq_true rfl) (Nat.le_of_ble_eq_true rfl)
set_option maxHeartbeats 4000000 in
set_option maxRecDepth 100000 in
theorem k600_X11_ahead (l : Launch) (G : va_G) (cy : Nat → ClassId) (hl0 : l.stackTraces = false) (h0 h1 h2 h3 h4 h5 h6 h7 h8 h9 h10 h11 h12 h13 h14 h15 h16 h17 h18 h19 h20 h21 : Nat) (x0 : Int32) (n0 : Nat) (g0 : Nat → Nat) (hlon0 : 0 ≤ n0) (hhin0 : n0 < 6) (hf0 : ¬ (x0 : Int32) < 0) (hf1 : ¬ (x0 : Int32) < 1) : zX l G cy yX11_ahead cX11_ahead 3 (some .int) 2 [.ref h0, .int (nI n0), .int x0] [(h0, .inr (11, [.ref h1, .ref h3, .ref h4, .ref h5, .ref h6, .ref h7, .ref h8, .ref h9, .ref h10, .ref h11, .ref h2, .int (-1), .int (-1), .int (-1), .int (-1)])), (h1, .inl (cy 3, 6, .inr (.inr (.inr (.inr (fun i => some (g0 i))))))), ((g0 n0), .inr (3, [.int 1, .int 0, .int 0, .int 0, .ref h12, .ref h13, .ref h14, .ref h15, .ref h16, .ref h17, .ref h18, .ref h19, .ref h20, .ref h21])), (h2, .inl (cy 0, 3, .inl (kc 0)))] "java/util/NoSuchElementException" zNI := by
  refine zX.of (by decide) (Nat.le_of_ble_eq_true rfl) ?_
  intro p e s m args below meth c ls A hx hb hml hown hts hlk htab hl hK hE hA hT
  have hown : s.vm.findClass "CostBench" = some m.cls := hown
  have hl : lv_has ls 3 [(0, .ref h0), (1, .int (nI n0)), (2, .int x0)] := hl
  refine lv_aload_n (pc := 0) hx hb dX11_ahead_0 rfl (lv_at hl 0 rfl) ?_
  refine lv_iload_n (pc := 1) hx hb dX11_ahead_1 rfl (lv_at hl 1 rfl) ?_
  refine z_cVV (pc := 2) hx hb hml hown hts hK hA hT lkV_RX11_99 (k26_X11_checkSlot l G cy h0 h1 h3 h4 h5 h6 h7 h8 h9 h10 h11 h2 n0 (by omega) (by omega)) [0] [1, 2, 3] rfl rfl rfl rfl rfl 0 rfl rfl (by decide) rfl hl.1 rfl (Nat.le_of_ble_eq_true rfl) dX11_ahead_2 ⟨Nat.le_of_ble_eq_true rfl, Nat.le_of_ble_eq_true rfl⟩ (fun _ => [(h1, .inl (cy 3, 6, .inr (.inr (.inr (.inr (fun i => some (g0 i))))))), ((g0 n0), .inr (3, [.int 1, .int 0, .int 0, .int 0, .ref h12, .ref h13, .ref h14, .ref h15, .ref h16, .ref h17, .ref h18, .ref h19, .ref h20, .ref h21])), (h2, .inl (cy 0, 3, .inl (kc 0))), (h0, .inr (11, [.ref h1, .ref h3, .ref h4, .ref h5, .ref h6, .ref h7, .ref h8, .ref h9, .ref h10, .ref h11, .ref h2, .int (-1), .int (-1), .int (-1), .int (-1)]))]) (fun _ => rfl) (fun qs1 H locs hT => ?_)
  refine lv_aload_n (pc := 5) hx hb dX11_ahead_5 rfl (lv_at hl 0 rfl) ?_
  refine lv_iload_n (pc := 6) hx hb dX11_ahead_6 rfl (lv_at hl 2 rfl) ?_
  refine lv_aload_n (pc := 7) hx hb dX11_ahead_7 rfl (lv_at hl 0 rfl) ?_
  refine z_get (pc := 8) hx hb hts hown hK hT 3 11 0 rfl rfl (by decide) rfl w3_9 rfl dX11_ahead_8 ?_
  refine lv_iload_n (pc := 11) hx hb dX11_ahead_11 rfl (lv_at hl 1 rfl) ?_
  refine z_aaldN (pc := 12) hx hb hK hT 0 3 n0 rfl rfl rfl rfl (by omega) (by decide) rfl dX11_ahead_12 ?_
  refine z_get (pc := 13) hx hb hts hown hK hT 1 3 0 rfl rfl (by decide) rfl w1_56 rfl dX11_ahead_13 ?_
  exact z_cVX (pc := 16) hx hb hml hown hts hlk htab hK hE hA hT lkV_RX11_176 (k541_X11_checkThere l G cy hl0 h0 h2 h1 h3 h4 h5 h6 h7 h8 h9 h10 h11 x0 hf0 hf1) [3, 2] rfl rfl 0 rfl rfl (by decide) rfl hl.1 rfl (Nat.le_of_ble_eq_true rfl) dX11_ahead_16 (Nat.le_of_ble_eq_true rfl) (Nat.le_of_ble_eq_true rfl)
set_option maxHeartbeats 4000000 in
set_option maxRecDepth 100000 in
theorem k601_X11_merged (l : Launch) (G : va_G) (cy : Nat → ClassId) (hl0 : l.stackTraces = false) (h0 h1 h2 h3 h4 h5 h6 h7 h8 h9 h10 h11 : Nat) (x0 : Int32) (x1 : Int32) (hf0 : (x0 : Int32) < 0) : zX l G cy yX11_merged cX11_merged 3 (some .int) 2 [.ref h0, .int x0, .int x1] [(h0, .inr (11, [.ref h2, .ref h3, .ref h4, .ref h5, .ref h6, .ref h7, .ref h8, .ref h9, .ref h10, .ref h11, .ref h1, .int (-1), .int (-1), .int (-1), .int (-1)])), (h1, .inl (cy 0, 3, .inl (kc 0)))] "java/util/NoSuchElementException" zNI := by
  refine zX.of (by decide) (Nat.le_of_ble_eq_true rfl) ?_
  intro p e s m args below meth c ls A hx hb hml hown hts hlk htab hl hK hE hA hT
  have hown : s.vm.findClass "CostBench" = some m.cls := hown
  have hl : lv_has ls 3 [(0, .ref h0), (1, .int x0), (2, .int x1)] := hl
  refine lv_aload_n (pc := 0) hx hb dX11_merged_0 rfl (lv_at hl 0 rfl) ?_
  refine lv_iload_n (pc := 1) hx hb dX11_merged_1 rfl (lv_at hl 1 rfl) ?_
  exact z_cVX (pc := 2) hx hb hml hown hts hlk htab hK hE hA hT lkV_RX11_99 (k504_X11_checkSlot l G cy hl0 h0 h1 h2 h3 h4 h5 h6 h7 h8 h9 h10 h11 x0 hf0) [0, 1] rfl rfl 0 rfl rfl (by decide) rfl hl.1 rfl (Nat.le_of_ble_eq_true rfl) dX11_merged_2 (Nat.le_of_ble_eq_true rfl) (Nat.le_of_ble_eq_true rfl)
set_option maxHeartbeats 4000000 in
set_option maxRecDepth 100000 in
theorem k602_X11_merged (l : Launch) (G : va_G) (cy : Nat → ClassId) (hl0 : l.stackTraces = false) (h0 h1 h2 h3 h4 h5 h6 h7 h8 h9 h10 h11 : Nat) (x0 : Int32) (x1 : Int32) (hf0 : ¬ (x0 : Int32) < 0) (hf1 : ¬ (x0 : Int32) < 6) : zX l G cy yX11_merged cX11_merged 3 (some .int) 2 [.ref h0, .int x0, .int x1] [(h0, .inr (11, [.ref h2, .ref h3, .ref h4, .ref h5, .ref h6, .ref h7, .ref h8, .ref h9, .ref h10, .ref h11, .ref h1, .int (-1), .int (-1), .int (-1), .int (-1)])), (h1, .inl (cy 0, 3, .inl (kc 0)))] "java/util/NoSuchElementException" zNI := by
  refine zX.of (by decide) (Nat.le_of_ble_eq_true rfl) ?_
  intro p e s m args below meth c ls A hx hb hml hown hts hlk htab hl hK hE hA hT
  have hown : s.vm.findClass "CostBench" = some m.cls := hown
  have hl : lv_has ls 3 [(0, .ref h0), (1, .int x0), (2, .int x1)] := hl
  refine lv_aload_n (pc := 0) hx hb dX11_merged_0 rfl (lv_at hl 0 rfl) ?_
  refine lv_iload_n (pc := 1) hx hb dX11_merged_1 rfl (lv_at hl 1 rfl) ?_
  exact z_cVX (pc := 2) hx hb hml hown hts hlk htab hK hE hA hT lkV_RX11_99 (k507_X11_checkSlot l G cy hl0 h0 h1 h2 h3 h4 h5 h6 h7 h8 h9 h10 h11 x0 hf0 hf1) [0, 1] rfl rfl 0 rfl rfl (by decide) rfl hl.1 rfl (Nat.le_of_ble_eq_true rfl) dX11_merged_2 (Nat.le_of_ble_eq_true rfl) (Nat.le_of_ble_eq_true rfl)
set_option maxHeartbeats 4000000 in
set_option maxRecDepth 100000 in
theorem k603_X11_merged (l : Launch) (G : va_G) (cy : Nat → ClassId) (hl0 : l.stackTraces = false) (h0 h1 h2 h3 h4 h5 h6 h7 h8 h9 h10 h11 h12 h13 h14 h15 h16 h17 h18 h19 h20 h21 : Nat) (x0 : Int32) (n0 : Nat) (g0 : Nat → Nat) (hlon0 : 0 ≤ n0) (hhin0 : n0 < 6) (hf0 : (x0 : Int32) < 0) : zX l G cy yX11_merged cX11_merged 3 (some .int) 2 [.ref h0, .int (nI n0), .int x0] [(h0, .inr (11, [.ref h1, .ref h3, .ref h4, .ref h5, .ref h6, .ref h7, .ref h8, .ref h9, .ref h10, .ref h11, .ref h2, .int (-1), .int (-1), .int (-1), .int (-1)])), (h1, .inl (cy 3, 6, .inr (.inr (.inr (.inr (fun i => some (g0 i))))))), ((g0 n0), .inr (3, [.int 1, .int 0, .int 0, .int 0, .ref h12, .ref h13, .ref h14, .ref h15, .ref h16, .ref h17, .ref h18, .ref h19, .ref h20, .ref h21])), (h2, .inl (cy 0, 3, .inl (kc 0)))] "java/util/NoSuchElementException" zNI := by
  refine zX.of (by decide) (Nat.le_of_ble_eq_true rfl) ?_
  intro p e s m args below meth c ls A hx hb hml hown hts hlk htab hl hK hE hA hT
  have hown : s.vm.findClass "CostBench" = some m.cls := hown
  have hl : lv_has ls 3 [(0, .ref h0), (1, .int (nI n0)), (2, .int x0)] := hl
  refine lv_aload_n (pc := 0) hx hb dX11_merged_0 rfl (lv_at hl 0 rfl) ?_
  refine lv_iload_n (pc := 1) hx hb dX11_merged_1 rfl (lv_at hl 1 rfl) ?_
  refine z_cVV (pc := 2) hx hb hml hown hts hK hA hT lkV_RX11_99 (k26_X11_checkSlot l G cy h0 h1 h3 h4 h5 h6 h7 h8 h9 h10 h11 h2 n0 (by omega) (by omega)) [0] [1, 2, 3] rfl rfl rfl rfl rfl 0 rfl rfl (by decide) rfl hl.1 rfl (Nat.le_of_ble_eq_true rfl) dX11_merged_2 ⟨Nat.le_of_ble_eq_true rfl, Nat.le_of_ble_eq_true rfl⟩ (fun _ => [(h1, .inl (cy 3, 6, .inr (.inr (.inr (.inr (fun i => some (g0 i))))))), ((g0 n0), .inr (3, [.int 1, .int 0, .int 0, .int 0, .ref h12, .ref h13, .ref h14, .ref h15, .ref h16, .ref h17, .ref h18, .ref h19, .ref h20, .ref h21])), (h2, .inl (cy 0, 3, .inl (kc 0))), (h0, .inr (11, [.ref h1, .ref h3, .ref h4, .ref h5, .ref h6, .ref h7, .ref h8, .ref h9, .ref h10, .ref h11, .ref h2, .int (-1), .int (-1), .int (-1), .int (-1)]))]) (fun _ => rfl) (fun qs1 H locs hT => ?_)
  refine lv_aload_n (pc := 5) hx hb dX11_merged_5 rfl (lv_at hl 0 rfl) ?_
  refine lv_iload_n (pc := 6) hx hb dX11_merged_6 rfl (lv_at hl 2 rfl) ?_
  refine lv_aload_n (pc := 7) hx hb dX11_merged_7 rfl (lv_at hl 0 rfl) ?_
  refine z_get (pc := 8) hx hb hts hown hK hT 3 11 0 rfl rfl (by decide) rfl w3_9 rfl dX11_merged_8 ?_
  refine lv_iload_n (pc := 11) hx hb dX11_merged_11 rfl (lv_at hl 1 rfl) ?_
  refine z_aaldN (pc := 12) hx hb hK hT 0 3 n0 rfl rfl rfl rfl (by omega) (by decide) rfl dX11_merged_12 ?_
  refine z_get (pc := 13) hx hb hts hown hK hT 1 3 0 rfl rfl (by decide) rfl w1_56 rfl dX11_merged_13 ?_
  exact z_cVX (pc := 16) hx hb hml hown hts hlk htab hK hE hA hT lkV_RX11_176 (k539_X11_checkThere l G cy hl0 h0 h2 h1 h3 h4 h5 h6 h7 h8 h9 h10 h11 x0 hf0) [3, 2] rfl rfl 0 rfl rfl (by decide) rfl hl.1 rfl (Nat.le_of_ble_eq_true rfl) dX11_merged_16 (Nat.le_of_ble_eq_true rfl) (Nat.le_of_ble_eq_true rfl)
set_option maxHeartbeats 4000000 in
set_option maxRecDepth 100000 in
theorem k604_X11_merged (l : Launch) (G : va_G) (cy : Nat → ClassId) (hl0 : l.stackTraces = false) (h0 h1 h2 h3 h4 h5 h6 h7 h8 h9 h10 h11 h12 h13 h14 h15 h16 h17 h18 h19 h20 h21 : Nat) (x0 : Int32) (n0 : Nat) (g0 : Nat → Nat) (hlon0 : 0 ≤ n0) (hhin0 : n0 < 6) (hf0 : ¬ (x0 : Int32) < 0) (hf1 : ¬ (x0 : Int32) < 1) : zX l G cy yX11_merged cX11_merged 3 (some .int) 2 [.ref h0, .int (nI n0), .int x0] [(h0, .inr (11, [.ref h1, .ref h3, .ref h4, .ref h5, .ref h6, .ref h7, .ref h8, .ref h9, .ref h10, .ref h11, .ref h2, .int (-1), .int (-1), .int (-1), .int (-1)])), (h1, .inl (cy 3, 6, .inr (.inr (.inr (.inr (fun i => some (g0 i))))))), ((g0 n0), .inr (3, [.int 1, .int 0, .int 0, .int 0, .ref h12, .ref h13, .ref h14, .ref h15, .ref h16, .ref h17, .ref h18, .ref h19, .ref h20, .ref h21])), (h2, .inl (cy 0, 3, .inl (kc 0)))] "java/util/NoSuchElementException" zNI := by
  refine zX.of (by decide) (Nat.le_of_ble_eq_true rfl) ?_
  intro p e s m args below meth c ls A hx hb hml hown hts hlk htab hl hK hE hA hT
  have hown : s.vm.findClass "CostBench" = some m.cls := hown
  have hl : lv_has ls 3 [(0, .ref h0), (1, .int (nI n0)), (2, .int x0)] := hl
  refine lv_aload_n (pc := 0) hx hb dX11_merged_0 rfl (lv_at hl 0 rfl) ?_
  refine lv_iload_n (pc := 1) hx hb dX11_merged_1 rfl (lv_at hl 1 rfl) ?_
  refine z_cVV (pc := 2) hx hb hml hown hts hK hA hT lkV_RX11_99 (k26_X11_checkSlot l G cy h0 h1 h3 h4 h5 h6 h7 h8 h9 h10 h11 h2 n0 (by omega) (by omega)) [0] [1, 2, 3] rfl rfl rfl rfl rfl 0 rfl rfl (by decide) rfl hl.1 rfl (Nat.le_of_ble_eq_true rfl) dX11_merged_2 ⟨Nat.le_of_ble_eq_true rfl, Nat.le_of_ble_eq_true rfl⟩ (fun _ => [(h1, .inl (cy 3, 6, .inr (.inr (.inr (.inr (fun i => some (g0 i))))))), ((g0 n0), .inr (3, [.int 1, .int 0, .int 0, .int 0, .ref h12, .ref h13, .ref h14, .ref h15, .ref h16, .ref h17, .ref h18, .ref h19, .ref h20, .ref h21])), (h2, .inl (cy 0, 3, .inl (kc 0))), (h0, .inr (11, [.ref h1, .ref h3, .ref h4, .ref h5, .ref h6, .ref h7, .ref h8, .ref h9, .ref h10, .ref h11, .ref h2, .int (-1), .int (-1), .int (-1), .int (-1)]))]) (fun _ => rfl) (fun qs1 H locs hT => ?_)
  refine lv_aload_n (pc := 5) hx hb dX11_merged_5 rfl (lv_at hl 0 rfl) ?_
  refine lv_iload_n (pc := 6) hx hb dX11_merged_6 rfl (lv_at hl 2 rfl) ?_
  refine lv_aload_n (pc := 7) hx hb dX11_merged_7 rfl (lv_at hl 0 rfl) ?_
  refine z_get (pc := 8) hx hb hts hown hK hT 3 11 0 rfl rfl (by decide) rfl w3_9 rfl dX11_merged_8 ?_
  refine lv_iload_n (pc := 11) hx hb dX11_merged_11 rfl (lv_at hl 1 rfl) ?_
  refine z_aaldN (pc := 12) hx hb hK hT 0 3 n0 rfl rfl rfl rfl (by omega) (by decide) rfl dX11_merged_12 ?_
  refine z_get (pc := 13) hx hb hts hown hK hT 1 3 0 rfl rfl (by decide) rfl w1_56 rfl dX11_merged_13 ?_
  exact z_cVX (pc := 16) hx hb hml hown hts hlk htab hK hE hA hT lkV_RX11_176 (k541_X11_checkThere l G cy hl0 h0 h2 h1 h3 h4 h5 h6 h7 h8 h9 h10 h11 x0 hf0 hf1) [3, 2] rfl rfl 0 rfl rfl (by decide) rfl hl.1 rfl (Nat.le_of_ble_eq_true rfl) dX11_merged_16 (Nat.le_of_ble_eq_true rfl) (Nat.le_of_ble_eq_true rfl)
set_option maxHeartbeats 4000000 in
set_option maxRecDepth 100000 in
theorem k605_X11_alike (l : Launch) (G : va_G) (cy : Nat → ClassId) (hl0 : l.stackTraces = false) (h0 h1 h2 h3 h4 h5 h6 h7 h8 h9 h10 h11 : Nat) (x0 : Int32) (x1 : Int32) (hf0 : (x0 : Int32) < 0) : zX l G cy yX11_alike cX11_alike 3 (some .boolean) 2 [.ref h0, .int x0, .int x1] [(h0, .inr (11, [.ref h2, .ref h3, .ref h4, .ref h5, .ref h6, .ref h7, .ref h8, .ref h9, .ref h10, .ref h11, .ref h1, .int (-1), .int (-1), .int (-1), .int (-1)])), (h1, .inl (cy 0, 3, .inl (kc 0)))] "java/util/NoSuchElementException" zNI := by
  refine zX.of (by decide) (Nat.le_of_ble_eq_true rfl) ?_
  intro p e s m args below meth c ls A hx hb hml hown hts hlk htab hl hK hE hA hT
  have hown : s.vm.findClass "CostBench" = some m.cls := hown
  have hl : lv_has ls 3 [(0, .ref h0), (1, .int x0), (2, .int x1)] := hl
  refine lv_aload_n (pc := 0) hx hb dX11_alike_0 rfl (lv_at hl 0 rfl) ?_
  refine lv_iload_n (pc := 1) hx hb dX11_alike_1 rfl (lv_at hl 1 rfl) ?_
  exact z_cVX (pc := 2) hx hb hml hown hts hlk htab hK hE hA hT lkV_RX11_99 (k504_X11_checkSlot l G cy hl0 h0 h1 h2 h3 h4 h5 h6 h7 h8 h9 h10 h11 x0 hf0) [0, 1] rfl rfl 0 rfl rfl (by decide) rfl hl.1 rfl (Nat.le_of_ble_eq_true rfl) dX11_alike_2 (Nat.le_of_ble_eq_true rfl) (Nat.le_of_ble_eq_true rfl)
set_option maxHeartbeats 4000000 in
set_option maxRecDepth 100000 in
theorem k606_X11_alike (l : Launch) (G : va_G) (cy : Nat → ClassId) (hl0 : l.stackTraces = false) (h0 h1 h2 h3 h4 h5 h6 h7 h8 h9 h10 h11 : Nat) (x0 : Int32) (x1 : Int32) (hf0 : ¬ (x0 : Int32) < 0) (hf1 : ¬ (x0 : Int32) < 6) : zX l G cy yX11_alike cX11_alike 3 (some .boolean) 2 [.ref h0, .int x0, .int x1] [(h0, .inr (11, [.ref h2, .ref h3, .ref h4, .ref h5, .ref h6, .ref h7, .ref h8, .ref h9, .ref h10, .ref h11, .ref h1, .int (-1), .int (-1), .int (-1), .int (-1)])), (h1, .inl (cy 0, 3, .inl (kc 0)))] "java/util/NoSuchElementException" zNI := by
  refine zX.of (by decide) (Nat.le_of_ble_eq_true rfl) ?_
  intro p e s m args below meth c ls A hx hb hml hown hts hlk htab hl hK hE hA hT
  have hown : s.vm.findClass "CostBench" = some m.cls := hown
  have hl : lv_has ls 3 [(0, .ref h0), (1, .int x0), (2, .int x1)] := hl
  refine lv_aload_n (pc := 0) hx hb dX11_alike_0 rfl (lv_at hl 0 rfl) ?_
  refine lv_iload_n (pc := 1) hx hb dX11_alike_1 rfl (lv_at hl 1 rfl) ?_
  exact z_cVX (pc := 2) hx hb hml hown hts hlk htab hK hE hA hT lkV_RX11_99 (k507_X11_checkSlot l G cy hl0 h0 h1 h2 h3 h4 h5 h6 h7 h8 h9 h10 h11 x0 hf0 hf1) [0, 1] rfl rfl 0 rfl rfl (by decide) rfl hl.1 rfl (Nat.le_of_ble_eq_true rfl) dX11_alike_2 (Nat.le_of_ble_eq_true rfl) (Nat.le_of_ble_eq_true rfl)
set_option maxHeartbeats 4000000 in
set_option maxRecDepth 100000 in
theorem k607_X11_alike (l : Launch) (G : va_G) (cy : Nat → ClassId) (hl0 : l.stackTraces = false) (h0 h1 h2 h3 h4 h5 h6 h7 h8 h9 h10 h11 : Nat) (x0 : Int32) (n0 : Nat) (hlon0 : 0 ≤ n0) (hhin0 : n0 < 6) (hf0 : (x0 : Int32) < 0) : zX l G cy yX11_alike cX11_alike 3 (some .boolean) 2 [.ref h0, .int (nI n0), .int x0] [(h0, .inr (11, [.ref h2, .ref h3, .ref h4, .ref h5, .ref h6, .ref h7, .ref h8, .ref h9, .ref h10, .ref h11, .ref h1, .int (-1), .int (-1), .int (-1), .int (-1)])), (h1, .inl (cy 0, 3, .inl (kc 0)))] "java/util/NoSuchElementException" zNI := by
  refine zX.of (by decide) (Nat.le_of_ble_eq_true rfl) ?_
  intro p e s m args below meth c ls A hx hb hml hown hts hlk htab hl hK hE hA hT
  have hown : s.vm.findClass "CostBench" = some m.cls := hown
  have hl : lv_has ls 3 [(0, .ref h0), (1, .int (nI n0)), (2, .int x0)] := hl
  refine lv_aload_n (pc := 0) hx hb dX11_alike_0 rfl (lv_at hl 0 rfl) ?_
  refine lv_iload_n (pc := 1) hx hb dX11_alike_1 rfl (lv_at hl 1 rfl) ?_
  refine z_cVV (pc := 2) hx hb hml hown hts hK hA hT lkV_RX11_99 (k26_X11_checkSlot l G cy h0 h2 h3 h4 h5 h6 h7 h8 h9 h10 h11 h1 n0 (by omega) (by omega)) [0] [1] rfl rfl rfl rfl rfl 0 rfl rfl (by decide) rfl hl.1 rfl (Nat.le_of_ble_eq_true rfl) dX11_alike_2 ⟨Nat.le_of_ble_eq_true rfl, Nat.le_of_ble_eq_true rfl⟩ (fun _ => [(h1, .inl (cy 0, 3, .inl (kc 0))), (h0, .inr (11, [.ref h2, .ref h3, .ref h4, .ref h5, .ref h6, .ref h7, .ref h8, .ref h9, .ref h10, .ref h11, .ref h1, .int (-1), .int (-1), .int (-1), .int (-1)]))]) (fun _ => rfl) (fun qs1 H locs hT => ?_)
  refine lv_aload_n (pc := 5) hx hb dX11_alike_5 rfl (lv_at hl 0 rfl) ?_
  refine lv_iload_n (pc := 6) hx hb dX11_alike_6 rfl (lv_at hl 2 rfl) ?_
  exact z_cVX (pc := 7) hx hb hml hown hts hlk htab hK hE hA hT lkV_RX11_99 (k504_X11_checkSlot l G cy hl0 h0 h1 h2 h3 h4 h5 h6 h7 h8 h9 h10 h11 x0 hf0) [1, 0] rfl rfl 0 rfl rfl (by decide) rfl hl.1 rfl (Nat.le_of_ble_eq_true rfl) dX11_alike_7 (Nat.le_of_ble_eq_true rfl) (Nat.le_of_ble_eq_true rfl)
set_option maxHeartbeats 4000000 in
set_option maxRecDepth 100000 in
theorem k608_X11_alike (l : Launch) (G : va_G) (cy : Nat → ClassId) (hl0 : l.stackTraces = false) (h0 h1 h2 h3 h4 h5 h6 h7 h8 h9 h10 h11 : Nat) (x0 : Int32) (n0 : Nat) (hlon0 : 0 ≤ n0) (hhin0 : n0 < 6) (hf0 : ¬ (x0 : Int32) < 0) (hf1 : ¬ (x0 : Int32) < 6) : zX l G cy yX11_alike cX11_alike 3 (some .boolean) 2 [.ref h0, .int (nI n0), .int x0] [(h0, .inr (11, [.ref h2, .ref h3, .ref h4, .ref h5, .ref h6, .ref h7, .ref h8, .ref h9, .ref h10, .ref h11, .ref h1, .int (-1), .int (-1), .int (-1), .int (-1)])), (h1, .inl (cy 0, 3, .inl (kc 0)))] "java/util/NoSuchElementException" zNI := by
  refine zX.of (by decide) (Nat.le_of_ble_eq_true rfl) ?_
  intro p e s m args below meth c ls A hx hb hml hown hts hlk htab hl hK hE hA hT
  have hown : s.vm.findClass "CostBench" = some m.cls := hown
  have hl : lv_has ls 3 [(0, .ref h0), (1, .int (nI n0)), (2, .int x0)] := hl
  refine lv_aload_n (pc := 0) hx hb dX11_alike_0 rfl (lv_at hl 0 rfl) ?_
  refine lv_iload_n (pc := 1) hx hb dX11_alike_1 rfl (lv_at hl 1 rfl) ?_
  refine z_cVV (pc := 2) hx hb hml hown hts hK hA hT lkV_RX11_99 (k26_X11_checkSlot l G cy h0 h2 h3 h4 h5 h6 h7 h8 h9 h10 h11 h1 n0 (by omega) (by omega)) [0] [1] rfl rfl rfl rfl rfl 0 rfl rfl (by decide) rfl hl.1 rfl (Nat.le_of_ble_eq_true rfl) dX11_alike_2 ⟨Nat.le_of_ble_eq_true rfl, Nat.le_of_ble_eq_true rfl⟩ (fun _ => [(h1, .inl (cy 0, 3, .inl (kc 0))), (h0, .inr (11, [.ref h2, .ref h3, .ref h4, .ref h5, .ref h6, .ref h7, .ref h8, .ref h9, .ref h10, .ref h11, .ref h1, .int (-1), .int (-1), .int (-1), .int (-1)]))]) (fun _ => rfl) (fun qs1 H locs hT => ?_)
  refine lv_aload_n (pc := 5) hx hb dX11_alike_5 rfl (lv_at hl 0 rfl) ?_
  refine lv_iload_n (pc := 6) hx hb dX11_alike_6 rfl (lv_at hl 2 rfl) ?_
  exact z_cVX (pc := 7) hx hb hml hown hts hlk htab hK hE hA hT lkV_RX11_99 (k507_X11_checkSlot l G cy hl0 h0 h1 h2 h3 h4 h5 h6 h7 h8 h9 h10 h11 x0 hf0 hf1) [1, 0] rfl rfl 0 rfl rfl (by decide) rfl hl.1 rfl (Nat.le_of_ble_eq_true rfl) dX11_alike_7 (Nat.le_of_ble_eq_true rfl) (Nat.le_of_ble_eq_true rfl)
set_option maxHeartbeats 4000000 in
set_option maxRecDepth 100000 in
theorem k609_X11_status (l : Launch) (G : va_G) (cy : Nat → ClassId) (h0 h1 h2 h3 h4 h5 h6 h7 h8 h9 h10 h11 : Nat) (x0 : Int32) (hf0 : (x0 : Int32) < 0) : zI l G cy yX11_status cX11_status 2 (some .int) 0 0 0 [.ref h0, .int x0] [(h0, .inr (11, [.ref h1, .ref h2, .ref h3, .ref h4, .ref h5, .ref h6, .ref h7, .ref h8, .ref h9, .ref h10, .ref h11, .int (-1), .int (-1), .int (-1), .int (-1)]))] (-1) (fun _ => []) := by
  refine zM.of (by decide) (Nat.le_of_ble_eq_true rfl) ?_
  intro p e s m args below meth c ls A hx hb hml hown hts hlk hr hin hl hK hA hT
  have hown : s.vm.findClass "CostBench" = some m.cls := hown
  have hl : lv_has ls 2 [(0, .ref h0), (1, .int x0)] := hl
  refine lv_iload_n (pc := 0) hx hb dX11_status_0 rfl (lv_at hl 1 rfl) ?_
  refine zb_if_lt_t (pc := 1) (tgt := 13) hx hb dX11_status_1 (by decide) hf0 ?_
  refine lv_iconst (pc := 13) (v := (-1)) hx hb dX11_status_13 (by decide) ?_
  refine lv_goto (pc := 14) (tgt := 23) hx hb dX11_status_14 (by decide) ?_
  exact z_iret (pc := 23) hx hb hr hlk hT (fun _ _ => 0) [] rfl rfl rfl (Nat.le_of_ble_eq_true rfl) (Nat.le_of_ble_eq_true rfl) dX11_status_23
set_option maxHeartbeats 4000000 in
set_option maxRecDepth 100000 in
theorem k610_X11_status (l : Launch) (G : va_G) (cy : Nat → ClassId) (h0 h1 h2 h3 h4 h5 h6 h7 h8 h9 h10 h11 : Nat) (x0 : Int32) (hf0 : ¬ (x0 : Int32) < 0) (hf1 : ¬ (x0 : Int32) < 3) : zI l G cy yX11_status cX11_status 2 (some .int) 0 0 0 [.ref h0, .int x0] [(h0, .inr (11, [.ref h2, .ref h3, .ref h4, .ref h5, .ref h6, .ref h7, .ref h8, .ref h9, .ref h10, .ref h11, .ref h1, .int (-1), .int (-1), .int (-1), .int (-1)])), (h1, .inl (cy 0, 3, .inl (kc 0)))] (-1) (fun _ => []) := by
  refine zM.of (by decide) (Nat.le_of_ble_eq_true rfl) ?_
  intro p e s m args below meth c ls A hx hb hml hown hts hlk hr hin hl hK hA hT
  have hown : s.vm.findClass "CostBench" = some m.cls := hown
  have hl : lv_has ls 2 [(0, .ref h0), (1, .int x0)] := hl
  refine lv_iload_n (pc := 0) hx hb dX11_status_0 rfl (lv_at hl 1 rfl) ?_
  refine zb_if_lt_f (pc := 1) (tgt := 13) hx hb dX11_status_1 (by decide) hf0 ?_
  refine lv_iload_n (pc := 4) hx hb dX11_status_4 rfl (lv_at hl 1 rfl) ?_
  refine lv_aload_n (pc := 5) hx hb dX11_status_5 rfl (lv_at hl 0 rfl) ?_
  refine z_get (pc := 6) hx hb hts hown hK hT 0 11 10 rfl rfl (by decide) rfl w3_19 rfl dX11_status_6 ?_
  refine z_alen (pc := 9) (v := 3) hx hb hK hT 1 0 rfl rfl (by decide) dX11_status_9 ?_
  refine zb_icmp_lt_f (pc := 10) (tgt := 17) hx hb dX11_status_10 (by decide) hf1 ?_
  refine lv_iconst (pc := 13) (v := (-1)) hx hb dX11_status_13 (by decide) ?_
  refine lv_goto (pc := 14) (tgt := 23) hx hb dX11_status_14 (by decide) ?_
  exact z_iret (pc := 23) hx hb hr hlk hT (fun _ _ => 0) [] rfl rfl rfl (Nat.le_of_ble_eq_true rfl) (Nat.le_of_ble_eq_true rfl) dX11_status_23
set_option maxHeartbeats 4000000 in
set_option maxRecDepth 100000 in
theorem k611_X12_in (l : Launch) (G : va_G) (cy : Nat → ClassId) (x0 : Int32) (hf0 : (x0 : Int32) < 0) : zI l G cy yX12_in cX12_in 3 (some .boolean) 0 0 0 [.int x0, .int 0, .int 2] [] 0 (fun _ => []) := by
  refine zM.of (by decide) (Nat.le_of_ble_eq_true rfl) ?_
  intro p e s m args below meth c ls A hx hb hml hown hts hlk hr hin hl hK hA hT
  have hown : s.vm.findClass "CostBenchModel" = some m.cls := hown
  have hl : lv_has ls 3 [(0, .int x0), (1, .int 0), (2, .int 2)] := hl
  refine lv_iload_n (pc := 0) hx hb dX12_in_0 rfl (lv_at hl 0 rfl) ?_
  refine lv_iload_n (pc := 1) hx hb dX12_in_1 rfl (lv_at hl 1 rfl) ?_
  refine zb_icmp_lt_t (pc := 2) (tgt := 14) hx hb dX12_in_2 (by decide) hf0 ?_
  refine lv_iconst (pc := 14) (v := 0) hx hb dX12_in_14 (by decide) ?_
  exact z_zret (pc := 15) hx hb hr hlk hT (fun _ _ => 0) [] rfl rfl rfl rfl (Nat.le_of_ble_eq_true rfl) (Nat.le_of_ble_eq_true rfl) dX12_in_15
set_option maxHeartbeats 4000000 in
set_option maxRecDepth 100000 in
theorem k612_X12_status (l : Launch) (G : va_G) (cy : Nat → ClassId) (h0 h1 h2 h3 h4 h5 h6 h7 h8 h9 h10 h11 h12 h13 h14 h15 h16 h17 h18 h19 h20 h21 h22 h23 h24 h25 h26 h27 h28 h29 h30 h31 h32 h33 h34 h35 h36 h37 h38 h39 h40 h41 h42 h43 : Nat) (x0 : Int32) (hf0 : (x0 : Int32) < 0) : zI l G cy yX12_status cX12_status 2 (some .int) 1 0 0 [.ref h0, .int x0] [(h0, .inr (12, [.int 0, .ref h1, .int 0, .int 0, .int 0, .int (-1), .int 0, .int 0, .ref h2, .ref h3, .ref h4, .ref h5, .int 0, .ref h6, .ref h7, .int 0, .ref h8, .ref h9, .ref h10, .ref h11, .ref h12, .int 0, .ref h13, .ref h14, .ref h15, .int 0, .ref h16, .ref h17, .ref h18, .int 0, .int 0, .ref h19, .ref h20, .ref h21, .int 0, .long 0, .long 0, .ref h22, .ref h23, .ref h24, .ref h25, .ref h26, .ref h27, .ref h28, .ref h29, .ref h30, .ref h31, .int 0, .int 0, .ref h32, .ref h33, .ref h34, .ref h35, .ref h36, .ref h37, .ref h38, .ref h39, .ref h40, .int 0, .int 0, .int 0, .int 0, .long 0, .ref h41, .ref h42, .ref h43, .int 0, .int 0, .long 0]))] (-1) (fun _ => [(h0, .inr (12, [.int 0, .ref h1, .int 0, .int 0, .int 0, .int (-1), .int 0, .int 0, .ref h2, .ref h3, .ref h4, .ref h5, .int 0, .ref h6, .ref h7, .int 0, .ref h8, .ref h9, .ref h10, .ref h11, .ref h12, .int 0, .ref h13, .ref h14, .ref h15, .int 0, .ref h16, .ref h17, .ref h18, .int 0, .int 0, .ref h19, .ref h20, .ref h21, .int 0, .long 0, .long 0, .ref h22, .ref h23, .ref h24, .ref h25, .ref h26, .ref h27, .ref h28, .ref h29, .ref h30, .ref h31, .int 0, .int 0, .ref h32, .ref h33, .ref h34, .ref h35, .ref h36, .ref h37, .ref h38, .ref h39, .ref h40, .int 0, .int 0, .int 0, .int 0, .long 0, .ref h41, .ref h42, .ref h43, .int 0, .int 0, .long 0]))]) := by
  refine zM.of (by decide) (Nat.le_of_ble_eq_true rfl) ?_
  intro p e s m args below meth c ls A hx hb hml hown hts hlk hr hin hl hK hA hT
  have hown : s.vm.findClass "CostBenchModel" = some m.cls := hown
  have hl : lv_has ls 2 [(0, .ref h0), (1, .int x0)] := hl
  refine lv_aload_n (pc := 0) hx hb dX12_status_0 rfl (lv_at hl 0 rfl) ?_
  refine lv_iconst (pc := 1) (v := 0) hx hb dX12_status_1 (by decide) ?_
  refine z_put (pc := 2) (ty := .int) hx hb hts hown hK hT 0 12 0 (by decide +kernel) rfl rfl rfl rfl (by decide) rfl w7_207 (Nat.le_of_ble_eq_true rfl) dX12_status_2 [(h0, .inr (12, [.int 0, .ref h1, .int 0, .int 0, .int 0, .int (-1), .int 0, .int 0, .ref h2, .ref h3, .ref h4, .ref h5, .int 0, .ref h6, .ref h7, .int 0, .ref h8, .ref h9, .ref h10, .ref h11, .ref h12, .int 0, .ref h13, .ref h14, .ref h15, .int 0, .ref h16, .ref h17, .ref h18, .int 0, .int 0, .ref h19, .ref h20, .ref h21, .int 0, .long 0, .long 0, .ref h22, .ref h23, .ref h24, .ref h25, .ref h26, .ref h27, .ref h28, .ref h29, .ref h30, .ref h31, .int 0, .int 0, .ref h32, .ref h33, .ref h34, .ref h35, .ref h36, .ref h37, .ref h38, .ref h39, .ref h40, .int 0, .int 0, .int 0, .int 0, .long 0, .ref h41, .ref h42, .ref h43, .int 0, .int 0, .long 0]))] rfl (fun H locs hT => ?_)
  refine lv_iload_n (pc := 5) hx hb dX12_status_5 rfl (lv_at hl 1 rfl) ?_
  refine lv_iconst (pc := 6) (v := 0) hx hb dX12_status_6 (by decide) ?_
  refine lv_iconst (pc := 7) (v := 2) hx hb dX12_status_7 (by decide) ?_
  refine z_cSI (pc := 8) hx hb hml hown hts hK hA hT lkS_RX12_256 (k611_X12_in l G cy x0 hf0) [] [0] rfl rfl rfl rfl rfl (by decide) rfl hl.1 rfl (Nat.le_of_ble_eq_true rfl) dX12_status_8 ⟨Nat.le_of_ble_eq_true rfl, Nat.le_of_ble_eq_true rfl⟩ (fun _ => [(h0, .inr (12, [.int 0, .ref h1, .int 0, .int 0, .int 0, .int (-1), .int 0, .int 0, .ref h2, .ref h3, .ref h4, .ref h5, .int 0, .ref h6, .ref h7, .int 0, .ref h8, .ref h9, .ref h10, .ref h11, .ref h12, .int 0, .ref h13, .ref h14, .ref h15, .int 0, .ref h16, .ref h17, .ref h18, .int 0, .int 0, .ref h19, .ref h20, .ref h21, .int 0, .long 0, .long 0, .ref h22, .ref h23, .ref h24, .ref h25, .ref h26, .ref h27, .ref h28, .ref h29, .ref h30, .ref h31, .int 0, .int 0, .ref h32, .ref h33, .ref h34, .ref h35, .ref h36, .ref h37, .ref h38, .ref h39, .ref h40, .int 0, .int 0, .int 0, .int 0, .long 0, .ref h41, .ref h42, .ref h43, .int 0, .int 0, .long 0]))]) (fun _ => rfl) (fun qs1 H locs hT => ?_)
  refine zb_if_eq_t (pc := 11) (tgt := 23) hx hb dX12_status_11 (by decide) (by decide) ?_
  refine lv_iconst (pc := 23) (v := (-1)) hx hb dX12_status_23 (by decide) ?_
  exact z_iret (pc := 24) hx hb hr hlk hT (fun _ _ => 0) [0] rfl rfl rfl (Nat.le_of_ble_eq_true rfl) (Nat.le_of_ble_eq_true rfl) dX12_status_24
set_option maxHeartbeats 4000000 in
set_option maxRecDepth 100000 in
theorem k613_X12_in (l : Launch) (G : va_G) (cy : Nat → ClassId) (x0 : Int32) (hf0 : ¬ (x0 : Int32) < 0) (hf1 : (2 : Int32) < x0) : zI l G cy yX12_in cX12_in 3 (some .boolean) 0 0 0 [.int x0, .int 0, .int 2] [] 0 (fun _ => []) := by
  refine zM.of (by decide) (Nat.le_of_ble_eq_true rfl) ?_
  intro p e s m args below meth c ls A hx hb hml hown hts hlk hr hin hl hK hA hT
  have hown : s.vm.findClass "CostBenchModel" = some m.cls := hown
  have hl : lv_has ls 3 [(0, .int x0), (1, .int 0), (2, .int 2)] := hl
  refine lv_iload_n (pc := 0) hx hb dX12_in_0 rfl (lv_at hl 0 rfl) ?_
  refine lv_iload_n (pc := 1) hx hb dX12_in_1 rfl (lv_at hl 1 rfl) ?_
  refine zb_icmp_lt_f (pc := 2) (tgt := 14) hx hb dX12_in_2 (by decide) hf0 ?_
  refine lv_iload_n (pc := 5) hx hb dX12_in_5 rfl (lv_at hl 0 rfl) ?_
  refine lv_iload_n (pc := 6) hx hb dX12_in_6 rfl (lv_at hl 2 rfl) ?_
  refine zb_icmp_gt_t (pc := 7) (tgt := 14) hx hb dX12_in_7 (by decide) hf1 ?_
  refine lv_iconst (pc := 14) (v := 0) hx hb dX12_in_14 (by decide) ?_
  exact z_zret (pc := 15) hx hb hr hlk hT (fun _ _ => 0) [] rfl rfl rfl rfl (Nat.le_of_ble_eq_true rfl) (Nat.le_of_ble_eq_true rfl) dX12_in_15
set_option maxHeartbeats 4000000 in
set_option maxRecDepth 100000 in
theorem k614_X12_status (l : Launch) (G : va_G) (cy : Nat → ClassId) (h0 h1 h2 h3 h4 h5 h6 h7 h8 h9 h10 h11 h12 h13 h14 h15 h16 h17 h18 h19 h20 h21 h22 h23 h24 h25 h26 h27 h28 h29 h30 h31 h32 h33 h34 h35 h36 h37 h38 h39 h40 h41 h42 h43 : Nat) (x0 : Int32) (hf0 : ¬ (x0 : Int32) < 0) (hf1 : (2 : Int32) < x0) : zI l G cy yX12_status cX12_status 2 (some .int) 1 0 0 [.ref h0, .int x0] [(h0, .inr (12, [.int 0, .ref h1, .int 0, .int 0, .int 0, .int (-1), .int 0, .int 0, .ref h2, .ref h3, .ref h4, .ref h5, .int 0, .ref h6, .ref h7, .int 0, .ref h8, .ref h9, .ref h10, .ref h11, .ref h12, .int 0, .ref h13, .ref h14, .ref h15, .int 0, .ref h16, .ref h17, .ref h18, .int 0, .int 0, .ref h19, .ref h20, .ref h21, .int 0, .long 0, .long 0, .ref h22, .ref h23, .ref h24, .ref h25, .ref h26, .ref h27, .ref h28, .ref h29, .ref h30, .ref h31, .int 0, .int 0, .ref h32, .ref h33, .ref h34, .ref h35, .ref h36, .ref h37, .ref h38, .ref h39, .ref h40, .int 0, .int 0, .int 0, .int 0, .long 0, .ref h41, .ref h42, .ref h43, .int 0, .int 0, .long 0]))] (-1) (fun _ => [(h0, .inr (12, [.int 0, .ref h1, .int 0, .int 0, .int 0, .int (-1), .int 0, .int 0, .ref h2, .ref h3, .ref h4, .ref h5, .int 0, .ref h6, .ref h7, .int 0, .ref h8, .ref h9, .ref h10, .ref h11, .ref h12, .int 0, .ref h13, .ref h14, .ref h15, .int 0, .ref h16, .ref h17, .ref h18, .int 0, .int 0, .ref h19, .ref h20, .ref h21, .int 0, .long 0, .long 0, .ref h22, .ref h23, .ref h24, .ref h25, .ref h26, .ref h27, .ref h28, .ref h29, .ref h30, .ref h31, .int 0, .int 0, .ref h32, .ref h33, .ref h34, .ref h35, .ref h36, .ref h37, .ref h38, .ref h39, .ref h40, .int 0, .int 0, .int 0, .int 0, .long 0, .ref h41, .ref h42, .ref h43, .int 0, .int 0, .long 0]))]) := by
  refine zM.of (by decide) (Nat.le_of_ble_eq_true rfl) ?_
  intro p e s m args below meth c ls A hx hb hml hown hts hlk hr hin hl hK hA hT
  have hown : s.vm.findClass "CostBenchModel" = some m.cls := hown
  have hl : lv_has ls 2 [(0, .ref h0), (1, .int x0)] := hl
  refine lv_aload_n (pc := 0) hx hb dX12_status_0 rfl (lv_at hl 0 rfl) ?_
  refine lv_iconst (pc := 1) (v := 0) hx hb dX12_status_1 (by decide) ?_
  refine z_put (pc := 2) (ty := .int) hx hb hts hown hK hT 0 12 0 (by decide +kernel) rfl rfl rfl rfl (by decide) rfl w7_207 (Nat.le_of_ble_eq_true rfl) dX12_status_2 [(h0, .inr (12, [.int 0, .ref h1, .int 0, .int 0, .int 0, .int (-1), .int 0, .int 0, .ref h2, .ref h3, .ref h4, .ref h5, .int 0, .ref h6, .ref h7, .int 0, .ref h8, .ref h9, .ref h10, .ref h11, .ref h12, .int 0, .ref h13, .ref h14, .ref h15, .int 0, .ref h16, .ref h17, .ref h18, .int 0, .int 0, .ref h19, .ref h20, .ref h21, .int 0, .long 0, .long 0, .ref h22, .ref h23, .ref h24, .ref h25, .ref h26, .ref h27, .ref h28, .ref h29, .ref h30, .ref h31, .int 0, .int 0, .ref h32, .ref h33, .ref h34, .ref h35, .ref h36, .ref h37, .ref h38, .ref h39, .ref h40, .int 0, .int 0, .int 0, .int 0, .long 0, .ref h41, .ref h42, .ref h43, .int 0, .int 0, .long 0]))] rfl (fun H locs hT => ?_)
  refine lv_iload_n (pc := 5) hx hb dX12_status_5 rfl (lv_at hl 1 rfl) ?_
  refine lv_iconst (pc := 6) (v := 0) hx hb dX12_status_6 (by decide) ?_
  refine lv_iconst (pc := 7) (v := 2) hx hb dX12_status_7 (by decide) ?_
  refine z_cSI (pc := 8) hx hb hml hown hts hK hA hT lkS_RX12_256 (k613_X12_in l G cy x0 hf0 hf1) [] [0] rfl rfl rfl rfl rfl (by decide) rfl hl.1 rfl (Nat.le_of_ble_eq_true rfl) dX12_status_8 ⟨Nat.le_of_ble_eq_true rfl, Nat.le_of_ble_eq_true rfl⟩ (fun _ => [(h0, .inr (12, [.int 0, .ref h1, .int 0, .int 0, .int 0, .int (-1), .int 0, .int 0, .ref h2, .ref h3, .ref h4, .ref h5, .int 0, .ref h6, .ref h7, .int 0, .ref h8, .ref h9, .ref h10, .ref h11, .ref h12, .int 0, .ref h13, .ref h14, .ref h15, .int 0, .ref h16, .ref h17, .ref h18, .int 0, .int 0, .ref h19, .ref h20, .ref h21, .int 0, .long 0, .long 0, .ref h22, .ref h23, .ref h24, .ref h25, .ref h26, .ref h27, .ref h28, .ref h29, .ref h30, .ref h31, .int 0, .int 0, .ref h32, .ref h33, .ref h34, .ref h35, .ref h36, .ref h37, .ref h38, .ref h39, .ref h40, .int 0, .int 0, .int 0, .int 0, .long 0, .ref h41, .ref h42, .ref h43, .int 0, .int 0, .long 0]))]) (fun _ => rfl) (fun qs1 H locs hT => ?_)
  refine zb_if_eq_t (pc := 11) (tgt := 23) hx hb dX12_status_11 (by decide) (by decide) ?_
  refine lv_iconst (pc := 23) (v := (-1)) hx hb dX12_status_23 (by decide) ?_
  exact z_iret (pc := 24) hx hb hr hlk hT (fun _ _ => 0) [0] rfl rfl rfl (Nat.le_of_ble_eq_true rfl) (Nat.le_of_ble_eq_true rfl) dX12_status_24
