set_option maxHeartbeats 4000000 in
set_option maxRecDepth 100000 in
theorem q_join_2_big {p : Program} {l : Launch} {e : Env} {s : State} {m : MethodId} {below : List Frame} {meth : Method} {c : Code} {H : Heap} {locs : List Loc} {ls : Array Slot} {G : va_G} {cy : Nat → ClassId} {b : Nat} {xs : Nat → Int32} (C : zC l G cy p s m meth c b 6 xs) (h0 h1 h2 h3 h4 h5 h6 h7 h8 h9 h10 h11 h12 h13 h14 h15 h16 h17 h18 h19 h20 h21 h22 h23 h24 h25 h26 h27 h28 h29 h30 h31 h32 h33 h34 h35 h36 h37 h38 h39 h40 h41 h42 h43 h44 h45 h46 h47 h48 h49 h50 h51 h52 h53 h54 h55 h56 : Nat) (j : Nat) (hloj : 0 ≤ j) (hhij : j < 6) (hs2 : xs 2 = (nI j)) (hb1 : ¬ ((xs 3) : Int32) < 0) (hb2 : ¬ ((xs 3) : Int32) < 6) (hb3 : (5 : Int32) < (xs 3)) (hT : zT G (fun q => s.heap.size ≤ q) s.heap H locs [(h0, .inr (11, [.ref h5, .ref h6, .ref h7, .ref h8, .ref h9, .ref h10, .ref h11, .ref h12, .ref h13, .ref h14, .ref h1, .int (-1), .int (-1), .int (-1), .int (-1)])), (h1, .inl (cy 0, 3, .inl (kc 0))), (h2, .inr (12, [.int 0, .ref h3, .int 0, .int 0, .int 0, .int (-1), .int 0, .int 0, .ref h15, .ref h16, .ref h17, .ref h18, .int 0, .ref h19, .ref h20, .int 0, .ref h21, .ref h22, .ref h23, .ref h24, .ref h25, .int 0, .ref h26, .ref h27, .ref h28, .int 0, .ref h29, .ref h30, .ref h31, .int 0, .int 0, .ref h32, .ref h33, .ref h34, .int 0, .long 0, .long 0, .ref h35, .ref h36, .ref h37, .ref h38, .ref h39, .ref h40, .ref h41, .ref h42, .ref h43, .ref h44, .int 0, .int 0, .ref h45, .ref h46, .ref h47, .ref h48, .ref h49, .ref h50, .ref h51, .ref h52, .ref h53, .int 0, .int 0, .int 0, .int 0, .long 0, .ref h54, .ref h55, .ref h56, .int 0, .int 0, .long 0])), (h3, .inl (cy 0, 3, .inl (kc 0)))]) (hl : lv_has ls 8 [(0, .ref b), (1, .ref h0), (2, .ref h2), (3, .ref h4), (4, .int 0)]) : W p l e (zR 1000 600002 7302232) s m #[Value.ref b] below meth c H locs 476 284354 (lw_Z below #[Value.ref b] s) (F0 m 390 ls []) := by
  obtain ⟨hl0, hx, hb, hr, hml, hown, hts, hX, hbl, hlk, hK, hE, q1, v1, q2, v2, hS⟩ := C
  have hA : ∀ q : Nat, s.heap.size ≤ q → (fun q => s.heap.size ≤ q) q := fun _ h => h
  have hbA : ¬ (fun q => s.heap.size ≤ q) b := Nat.not_le.mpr hbl
  refine lv_aload_n (pc := 390) hx hb dL_law_390 rfl (lv_at hl 1 rfl) ?_
  refine lv_aload_n (pc := 391) hx hb dL_law_391 rfl (lv_at hl 0 rfl) ?_
  refine lv_iload (pc := 392) hx hb dL_law_392 (lv_at hl 4 rfl) ?_
  refine lv_iconst (pc := 394) (v := 1) hx hb dL_law_394 (by decide) ?_
  refine z_iadd (pc := 395) (v := 1) hx hb dL_law_395 (by decide) ?_
  refine z_sld (pc := 396) (v := (xs 1)) hx hb hX hbl hbA hT 1 rfl (by decide) rfl dL_law_396 ?_
  refine lv_aload_n (pc := 397) hx hb dL_law_397 rfl (lv_at hl 0 rfl) ?_
  refine lv_iload (pc := 398) hx hb dL_law_398 (lv_at hl 4 rfl) ?_
  refine lv_iconst (pc := 400) (v := 2) hx hb dL_law_400 (by decide) ?_
  refine z_iadd (pc := 401) (v := 2) hx hb dL_law_401 (by decide) ?_
  refine z_sld (pc := 402) (v := (nI j)) hx hb hX hbl hbA hT 2 rfl (by decide) hs2 dL_law_402 ?_
  refine lv_aload_n (pc := 403) hx hb dL_law_403 rfl (lv_at hl 0 rfl) ?_
  refine lv_iload (pc := 404) hx hb dL_law_404 (lv_at hl 4 rfl) ?_
  refine lv_iconst (pc := 406) (v := 3) hx hb dL_law_406 (by decide) ?_
  refine z_iadd (pc := 407) (v := 3) hx hb dL_law_407 (by decide) ?_
  refine z_sld (pc := 408) (v := (xs 3)) hx hb hX hbl hbA hT 3 rfl (by decide) rfl dL_law_408 ?_
  refine lv_aload_n (pc := 409) hx hb dL_law_409 rfl (lv_at hl 0 rfl) ?_
  refine lv_iload (pc := 410) hx hb dL_law_410 (lv_at hl 4 rfl) ?_
  refine lv_iconst (pc := 412) (v := 4) hx hb dL_law_412 (by decide) ?_
  refine z_iadd (pc := 413) (v := 4) hx hb dL_law_413 (by decide) ?_
  refine z_sld (pc := 414) (v := (xs 4)) hx hb hX hbl hbA hT 4 rfl (by decide) rfl dL_law_414 ?_
  refine lv_aload_n (pc := 415) hx hb dL_law_415 rfl (lv_at hl 3 rfl) ?_
  refine z_eHI (pc := 416) zE_ok hE hx hb hml hown hts hK hA hT lkH_RL_108 ((k831_L_join l G cy hl0 h0 h1 h4 h5 h6 h7 h8 h9 h10 h11 h12 h13 h14 (xs 1) (xs 3) (xs 4) j (by omega) (by omega) hb1 hb2).e) [0, 1] [2, 3] rfl rfl rfl rfl rfl (by decide) rfl hl.1 rfl (Nat.le_of_ble_eq_true rfl) dL_law_416 ⟨Nat.le_of_ble_eq_true rfl, Nat.le_of_ble_eq_true rfl⟩ (fun _ => [(h2, .inr (12, [.int 0, .ref h3, .int 0, .int 0, .int 0, .int (-1), .int 0, .int 0, .ref h15, .ref h16, .ref h17, .ref h18, .int 0, .ref h19, .ref h20, .int 0, .ref h21, .ref h22, .ref h23, .ref h24, .ref h25, .int 0, .ref h26, .ref h27, .ref h28, .int 0, .ref h29, .ref h30, .ref h31, .int 0, .int 0, .ref h32, .ref h33, .ref h34, .int 0, .long 0, .long 0, .ref h35, .ref h36, .ref h37, .ref h38, .ref h39, .ref h40, .ref h41, .ref h42, .ref h43, .ref h44, .int 0, .int 0, .ref h45, .ref h46, .ref h47, .ref h48, .ref h49, .ref h50, .ref h51, .ref h52, .ref h53, .int 0, .int 0, .int 0, .int 0, .long 0, .ref h54, .ref h55, .ref h56, .int 0, .int 0, .long 0])), (h3, .inl (cy 0, 3, .inl (kc 0)))]) (fun _ => rfl) (fun qs1 H locs hT => ?_)
  refine lv_istore (pc := 419) (lv' := [(5, .int 1), (0, .ref b), (1, .ref h0), (2, .ref h2), (3, .ref h4), (4, .int 0)]) hx hb dL_law_419 hl (by decide) rfl (fun ls hl => ?_)
  refine lv_aload_n (pc := 421) hx hb dL_law_421 rfl (lv_at hl 3 rfl) ?_
  refine lv_aload_n (pc := 422) hx hb dL_law_422 rfl (lv_at hl 1 rfl) ?_
  refine lv_iload (pc := 423) hx hb dL_law_423 (lv_at hl 5 rfl) ?_
  refine lv_iconst (pc := 425) (v := 1) hx hb dL_law_425 (by decide) ?_
  refine z_iadd (pc := 426) (v := 1) hx hb dL_law_426 (by decide) ?_
  refine z_sld (pc := 427) (v := (xs 1)) hx hb hX hbl hbA hT 1 rfl (by decide) rfl dL_law_427 ?_
  refine lv_aload_n (pc := 428) hx hb dL_law_428 rfl (lv_at hl 1 rfl) ?_
  refine lv_iload (pc := 429) hx hb dL_law_429 (lv_at hl 5 rfl) ?_
  refine lv_iconst (pc := 431) (v := 2) hx hb dL_law_431 (by decide) ?_
  refine z_iadd (pc := 432) (v := 2) hx hb dL_law_432 (by decide) ?_
  refine z_sld (pc := 433) (v := (nI j)) hx hb hX hbl hbA hT 2 rfl (by decide) hs2 dL_law_433 ?_
  refine lv_aload_n (pc := 434) hx hb dL_law_434 rfl (lv_at hl 1 rfl) ?_
  refine lv_iload (pc := 435) hx hb dL_law_435 (lv_at hl 5 rfl) ?_
  refine lv_iconst (pc := 437) (v := 3) hx hb dL_law_437 (by decide) ?_
  refine z_iadd (pc := 438) (v := 3) hx hb dL_law_438 (by decide) ?_
  refine z_sld (pc := 439) (v := (xs 3)) hx hb hX hbl hbA hT 3 rfl (by decide) rfl dL_law_439 ?_
  refine lv_aload_n (pc := 440) hx hb dL_law_440 rfl (lv_at hl 1 rfl) ?_
  refine lv_iload (pc := 441) hx hb dL_law_441 (lv_at hl 5 rfl) ?_
  refine lv_iconst (pc := 443) (v := 4) hx hb dL_law_443 (by decide) ?_
  refine z_iadd (pc := 444) (v := 4) hx hb dL_law_444 (by decide) ?_
  refine z_sld (pc := 445) (v := (xs 4)) hx hb hX hbl hbA hT 4 rfl (by decide) rfl dL_law_445 ?_
  refine z_cVI (pc := 446) hx hb hml hown hts hK hA hT lkV_RL_111 (k632_X12_join l G cy h2 h3 h15 h16 h17 h18 h19 h20 h21 h22 h23 h24 h25 h26 h27 h28 h29 h30 h31 h32 h33 h34 h35 h36 h37 h38 h39 h40 h41 h42 h43 h44 h45 h46 h47 h48 h49 h50 h51 h52 h53 h54 h55 h56 (xs 1) (xs 3) (xs 4) j (by omega) (by omega) hb1 hb3) [0, 1] [] rfl rfl rfl rfl rfl 0 rfl rfl (by decide) rfl hl.1 rfl (Nat.le_of_ble_eq_true rfl) dL_law_446 ⟨Nat.le_of_ble_eq_true rfl, Nat.le_of_ble_eq_true rfl⟩ (fun _ => [(h2, .inr (12, [.int 1, .ref h3, .int 0, .int 0, .int 0, .int (-1), .int 0, .int 0, .ref h15, .ref h16, .ref h17, .ref h18, .int 0, .ref h19, .ref h20, .int 0, .ref h21, .ref h22, .ref h23, .ref h24, .ref h25, .int 0, .ref h26, .ref h27, .ref h28, .int 0, .ref h29, .ref h30, .ref h31, .int 0, .int 0, .ref h32, .ref h33, .ref h34, .int 0, .long 0, .long 0, .ref h35, .ref h36, .ref h37, .ref h38, .ref h39, .ref h40, .ref h41, .ref h42, .ref h43, .ref h44, .int 0, .int 0, .ref h45, .ref h46, .ref h47, .ref h48, .ref h49, .ref h50, .ref h51, .ref h52, .ref h53, .int 0, .int 0, .int 0, .int 0, .long 0, .ref h54, .ref h55, .ref h56, .int 0, .int 0, .long 0]))]) (fun _ => rfl) (fun qs2 H locs hT => ?_)
  refine lv_istore (pc := 449) (lv' := [(6, .int 0), (5, .int 1), (0, .ref b), (1, .ref h0), (2, .ref h2), (3, .ref h4), (4, .int 0)]) hx hb dL_law_449 hl (by decide) rfl (fun ls hl => ?_)
  refine lv_aload_n (pc := 451) hx hb dL_law_451 rfl (lv_at hl 4 rfl) ?_
  refine z_cVI (pc := 452) hx hb hml hown hts hK hA hT lkV_RL_96 (k1051_X12_thrown l G cy h2 h3 h15 h16 h17 h18 h19 h20 h21 h22 h23 h24 h25 h26 h27 h28 h29 h30 h31 h32 h33 h34 h35 h36 h37 h38 h39 h40 h41 h42 h43 h44 h45 h46 h47 h48 h49 h50 h51 h52 h53 h54 h55 h56) [0] [] rfl rfl rfl rfl rfl 0 rfl rfl (by decide) rfl hl.1 rfl (Nat.le_of_ble_eq_true rfl) dL_law_452 ⟨Nat.le_of_ble_eq_true rfl, Nat.le_of_ble_eq_true rfl⟩ (fun _ => [(h2, .inr (12, [.int 1, .ref h3, .int 0, .int 0, .int 0, .int (-1), .int 0, .int 0, .ref h15, .ref h16, .ref h17, .ref h18, .int 0, .ref h19, .ref h20, .int 0, .ref h21, .ref h22, .ref h23, .ref h24, .ref h25, .int 0, .ref h26, .ref h27, .ref h28, .int 0, .ref h29, .ref h30, .ref h31, .int 0, .int 0, .ref h32, .ref h33, .ref h34, .int 0, .long 0, .long 0, .ref h35, .ref h36, .ref h37, .ref h38, .ref h39, .ref h40, .ref h41, .ref h42, .ref h43, .ref h44, .int 0, .int 0, .ref h45, .ref h46, .ref h47, .ref h48, .ref h49, .ref h50, .ref h51, .ref h52, .ref h53, .int 0, .int 0, .int 0, .int 0, .long 0, .ref h54, .ref h55, .ref h56, .int 0, .int 0, .long 0]))]) (fun _ => rfl) (fun qs3 H locs hT => ?_)
  refine lv_iload (pc := 455) hx hb dL_law_455 (lv_at hl 1 rfl) ?_
  refine zb_icmp_eq_t (pc := 457) (tgt := 462) hx hb dL_law_457 (by decide) (by decide) ?_
  refine lv_iload (pc := 462) hx hb dL_law_462 (lv_at hl 1 rfl) ?_
  refine zb_if_ne_t (pc := 464) (tgt := 479) hx hb dL_law_464 (by decide) (by decide) ?_
  refine lv_goto (pc := 479) (tgt := 1719) hx hb dL_law_479 (by decide) ?_
  exact q_end hx hb hr hlk hX hbl hT (lv_sub hl [2, 6] rfl) (Nat.le_of_ble_eq_true rfl) (Nat.le_of_ble_eq_true rfl)
set_option maxHeartbeats 4000000 in
set_option maxRecDepth 100000 in
theorem q_join_3_neg {p : Program} {l : Launch} {e : Env} {s : State} {m : MethodId} {below : List Frame} {meth : Method} {c : Code} {H : Heap} {locs : List Loc} {ls : Array Slot} {G : va_G} {cy : Nat → ClassId} {b : Nat} {xs : Nat → Int32} (C : zC l G cy p s m meth c b 6 xs) (h0 h1 h2 h3 h4 h5 h6 h7 h8 h9 h10 h11 h12 h13 h14 h15 h16 h17 h18 h19 h20 h21 h22 h23 h24 h25 h26 h27 h28 h29 h30 h31 h32 h33 h34 h35 h36 h37 h38 h39 h40 h41 h42 h43 h44 h45 h46 h47 h48 h49 h50 h51 h52 h53 h54 h55 h56 : Nat) (j : Nat) (k : Nat) (hloj : 0 ≤ j) (hhij : j < 6) (hlok : 0 ≤ k) (hhik : k < 6) (hs2 : xs 2 = (nI j)) (hs3 : xs 3 = (nI k)) (hneg : ((xs 4) : Int32) < 0) (hT : zT G (fun q => s.heap.size ≤ q) s.heap H locs [(h0, .inr (11, [.ref h5, .ref h6, .ref h7, .ref h8, .ref h9, .ref h10, .ref h11, .ref h12, .ref h13, .ref h14, .ref h1, .int (-1), .int (-1), .int (-1), .int (-1)])), (h1, .inl (cy 0, 3, .inl (kc 0))), (h2, .inr (12, [.int 0, .ref h3, .int 0, .int 0, .int 0, .int (-1), .int 0, .int 0, .ref h15, .ref h16, .ref h17, .ref h18, .int 0, .ref h19, .ref h20, .int 0, .ref h21, .ref h22, .ref h23, .ref h24, .ref h25, .int 0, .ref h26, .ref h27, .ref h28, .int 0, .ref h29, .ref h30, .ref h31, .int 0, .int 0, .ref h32, .ref h33, .ref h34, .int 0, .long 0, .long 0, .ref h35, .ref h36, .ref h37, .ref h38, .ref h39, .ref h40, .ref h41, .ref h42, .ref h43, .ref h44, .int 0, .int 0, .ref h45, .ref h46, .ref h47, .ref h48, .ref h49, .ref h50, .ref h51, .ref h52, .ref h53, .int 0, .int 0, .int 0, .int 0, .long 0, .ref h54, .ref h55, .ref h56, .int 0, .int 0, .long 0])), (h3, .inl (cy 0, 3, .inl (kc 0)))]) (hl : lv_has ls 8 [(0, .ref b), (1, .ref h0), (2, .ref h2), (3, .ref h4), (4, .int 0)]) : W p l e (zR 1000 600002 7302232) s m #[Value.ref b] below meth c H locs 476 284354 (lw_Z below #[Value.ref b] s) (F0 m 390 ls []) := by
  obtain ⟨hl0, hx, hb, hr, hml, hown, hts, hX, hbl, hlk, hK, hE, q1, v1, q2, v2, hS⟩ := C
  have hA : ∀ q : Nat, s.heap.size ≤ q → (fun q => s.heap.size ≤ q) q := fun _ h => h
  have hbA : ¬ (fun q => s.heap.size ≤ q) b := Nat.not_le.mpr hbl
  refine lv_aload_n (pc := 390) hx hb dL_law_390 rfl (lv_at hl 1 rfl) ?_
  refine lv_aload_n (pc := 391) hx hb dL_law_391 rfl (lv_at hl 0 rfl) ?_
  refine lv_iload (pc := 392) hx hb dL_law_392 (lv_at hl 4 rfl) ?_
  refine lv_iconst (pc := 394) (v := 1) hx hb dL_law_394 (by decide) ?_
  refine z_iadd (pc := 395) (v := 1) hx hb dL_law_395 (by decide) ?_
  refine z_sld (pc := 396) (v := (xs 1)) hx hb hX hbl hbA hT 1 rfl (by decide) rfl dL_law_396 ?_
  refine lv_aload_n (pc := 397) hx hb dL_law_397 rfl (lv_at hl 0 rfl) ?_
  refine lv_iload (pc := 398) hx hb dL_law_398 (lv_at hl 4 rfl) ?_
  refine lv_iconst (pc := 400) (v := 2) hx hb dL_law_400 (by decide) ?_
  refine z_iadd (pc := 401) (v := 2) hx hb dL_law_401 (by decide) ?_
  refine z_sld (pc := 402) (v := (nI j)) hx hb hX hbl hbA hT 2 rfl (by decide) hs2 dL_law_402 ?_
  refine lv_aload_n (pc := 403) hx hb dL_law_403 rfl (lv_at hl 0 rfl) ?_
  refine lv_iload (pc := 404) hx hb dL_law_404 (lv_at hl 4 rfl) ?_
  refine lv_iconst (pc := 406) (v := 3) hx hb dL_law_406 (by decide) ?_
  refine z_iadd (pc := 407) (v := 3) hx hb dL_law_407 (by decide) ?_
  refine z_sld (pc := 408) (v := (nI k)) hx hb hX hbl hbA hT 3 rfl (by decide) hs3 dL_law_408 ?_
  refine lv_aload_n (pc := 409) hx hb dL_law_409 rfl (lv_at hl 0 rfl) ?_
  refine lv_iload (pc := 410) hx hb dL_law_410 (lv_at hl 4 rfl) ?_
  refine lv_iconst (pc := 412) (v := 4) hx hb dL_law_412 (by decide) ?_
  refine z_iadd (pc := 413) (v := 4) hx hb dL_law_413 (by decide) ?_
  refine z_sld (pc := 414) (v := (xs 4)) hx hb hX hbl hbA hT 4 rfl (by decide) rfl dL_law_414 ?_
  refine lv_aload_n (pc := 415) hx hb dL_law_415 rfl (lv_at hl 3 rfl) ?_
  refine z_eHI (pc := 416) zE_ok hE hx hb hml hown hts hK hA hT lkH_RL_108 ((k832_L_join l G cy hl0 h0 h1 h4 h5 h6 h7 h8 h9 h10 h11 h12 h13 h14 (xs 1) (xs 4) j k (by omega) (by omega) (by omega) (by omega) hneg).e) [0, 1] [2, 3] rfl rfl rfl rfl rfl (by decide) rfl hl.1 rfl (Nat.le_of_ble_eq_true rfl) dL_law_416 ⟨Nat.le_of_ble_eq_true rfl, Nat.le_of_ble_eq_true rfl⟩ (fun _ => [(h2, .inr (12, [.int 0, .ref h3, .int 0, .int 0, .int 0, .int (-1), .int 0, .int 0, .ref h15, .ref h16, .ref h17, .ref h18, .int 0, .ref h19, .ref h20, .int 0, .ref h21, .ref h22, .ref h23, .ref h24, .ref h25, .int 0, .ref h26, .ref h27, .ref h28, .int 0, .ref h29, .ref h30, .ref h31, .int 0, .int 0, .ref h32, .ref h33, .ref h34, .int 0, .long 0, .long 0, .ref h35, .ref h36, .ref h37, .ref h38, .ref h39, .ref h40, .ref h41, .ref h42, .ref h43, .ref h44, .int 0, .int 0, .ref h45, .ref h46, .ref h47, .ref h48, .ref h49, .ref h50, .ref h51, .ref h52, .ref h53, .int 0, .int 0, .int 0, .int 0, .long 0, .ref h54, .ref h55, .ref h56, .int 0, .int 0, .long 0])), (h3, .inl (cy 0, 3, .inl (kc 0)))]) (fun _ => rfl) (fun qs1 H locs hT => ?_)
  refine lv_istore (pc := 419) (lv' := [(5, .int 1), (0, .ref b), (1, .ref h0), (2, .ref h2), (3, .ref h4), (4, .int 0)]) hx hb dL_law_419 hl (by decide) rfl (fun ls hl => ?_)
  refine lv_aload_n (pc := 421) hx hb dL_law_421 rfl (lv_at hl 3 rfl) ?_
  refine lv_aload_n (pc := 422) hx hb dL_law_422 rfl (lv_at hl 1 rfl) ?_
  refine lv_iload (pc := 423) hx hb dL_law_423 (lv_at hl 5 rfl) ?_
  refine lv_iconst (pc := 425) (v := 1) hx hb dL_law_425 (by decide) ?_
  refine z_iadd (pc := 426) (v := 1) hx hb dL_law_426 (by decide) ?_
  refine z_sld (pc := 427) (v := (xs 1)) hx hb hX hbl hbA hT 1 rfl (by decide) rfl dL_law_427 ?_
  refine lv_aload_n (pc := 428) hx hb dL_law_428 rfl (lv_at hl 1 rfl) ?_
  refine lv_iload (pc := 429) hx hb dL_law_429 (lv_at hl 5 rfl) ?_
  refine lv_iconst (pc := 431) (v := 2) hx hb dL_law_431 (by decide) ?_
  refine z_iadd (pc := 432) (v := 2) hx hb dL_law_432 (by decide) ?_
  refine z_sld (pc := 433) (v := (nI j)) hx hb hX hbl hbA hT 2 rfl (by decide) hs2 dL_law_433 ?_
  refine lv_aload_n (pc := 434) hx hb dL_law_434 rfl (lv_at hl 1 rfl) ?_
  refine lv_iload (pc := 435) hx hb dL_law_435 (lv_at hl 5 rfl) ?_
  refine lv_iconst (pc := 437) (v := 3) hx hb dL_law_437 (by decide) ?_
  refine z_iadd (pc := 438) (v := 3) hx hb dL_law_438 (by decide) ?_
  refine z_sld (pc := 439) (v := (nI k)) hx hb hX hbl hbA hT 3 rfl (by decide) hs3 dL_law_439 ?_
  refine lv_aload_n (pc := 440) hx hb dL_law_440 rfl (lv_at hl 1 rfl) ?_
  refine lv_iload (pc := 441) hx hb dL_law_441 (lv_at hl 5 rfl) ?_
  refine lv_iconst (pc := 443) (v := 4) hx hb dL_law_443 (by decide) ?_
  refine z_iadd (pc := 444) (v := 4) hx hb dL_law_444 (by decide) ?_
  refine z_sld (pc := 445) (v := (xs 4)) hx hb hX hbl hbA hT 4 rfl (by decide) rfl dL_law_445 ?_
  refine z_cVI (pc := 446) hx hb hml hown hts hK hA hT lkV_RL_111 (k633_X12_join l G cy h2 h3 h15 h16 h17 h18 h19 h20 h21 h22 h23 h24 h25 h26 h27 h28 h29 h30 h31 h32 h33 h34 h35 h36 h37 h38 h39 h40 h41 h42 h43 h44 h45 h46 h47 h48 h49 h50 h51 h52 h53 h54 h55 h56 (xs 1) (xs 4) j k (by omega) (by omega) (by omega) (by omega) hneg) [0, 1] [] rfl rfl rfl rfl rfl 0 rfl rfl (by decide) rfl hl.1 rfl (Nat.le_of_ble_eq_true rfl) dL_law_446 ⟨Nat.le_of_ble_eq_true rfl, Nat.le_of_ble_eq_true rfl⟩ (fun _ => [(h2, .inr (12, [.int 1, .ref h3, .int 0, .int 0, .int 0, .int (-1), .int 0, .int 0, .ref h15, .ref h16, .ref h17, .ref h18, .int 0, .ref h19, .ref h20, .int 0, .ref h21, .ref h22, .ref h23, .ref h24, .ref h25, .int 0, .ref h26, .ref h27, .ref h28, .int 0, .ref h29, .ref h30, .ref h31, .int 0, .int 0, .ref h32, .ref h33, .ref h34, .int 0, .long 0, .long 0, .ref h35, .ref h36, .ref h37, .ref h38, .ref h39, .ref h40, .ref h41, .ref h42, .ref h43, .ref h44, .int 0, .int 0, .ref h45, .ref h46, .ref h47, .ref h48, .ref h49, .ref h50, .ref h51, .ref h52, .ref h53, .int 0, .int 0, .int 0, .int 0, .long 0, .ref h54, .ref h55, .ref h56, .int 0, .int 0, .long 0]))]) (fun _ => rfl) (fun qs2 H locs hT => ?_)
  refine lv_istore (pc := 449) (lv' := [(6, .int 0), (5, .int 1), (0, .ref b), (1, .ref h0), (2, .ref h2), (3, .ref h4), (4, .int 0)]) hx hb dL_law_449 hl (by decide) rfl (fun ls hl => ?_)
  refine lv_aload_n (pc := 451) hx hb dL_law_451 rfl (lv_at hl 4 rfl) ?_
  refine z_cVI (pc := 452) hx hb hml hown hts hK hA hT lkV_RL_96 (k1051_X12_thrown l G cy h2 h3 h15 h16 h17 h18 h19 h20 h21 h22 h23 h24 h25 h26 h27 h28 h29 h30 h31 h32 h33 h34 h35 h36 h37 h38 h39 h40 h41 h42 h43 h44 h45 h46 h47 h48 h49 h50 h51 h52 h53 h54 h55 h56) [0] [] rfl rfl rfl rfl rfl 0 rfl rfl (by decide) rfl hl.1 rfl (Nat.le_of_ble_eq_true rfl) dL_law_452 ⟨Nat.le_of_ble_eq_true rfl, Nat.le_of_ble_eq_true rfl⟩ (fun _ => [(h2, .inr (12, [.int 1, .ref h3, .int 0, .int 0, .int 0, .int (-1), .int 0, .int 0, .ref h15, .ref h16, .ref h17, .ref h18, .int 0, .ref h19, .ref h20, .int 0, .ref h21, .ref h22, .ref h23, .ref h24, .ref h25, .int 0, .ref h26, .ref h27, .ref h28, .int 0, .ref h29, .ref h30, .ref h31, .int 0, .int 0, .ref h32, .ref h33, .ref h34, .int 0, .long 0, .long 0, .ref h35, .ref h36, .ref h37, .ref h38, .ref h39, .ref h40, .ref h41, .ref h42, .ref h43, .ref h44, .int 0, .int 0, .ref h45, .ref h46, .ref h47, .ref h48, .ref h49, .ref h50, .ref h51, .ref h52, .ref h53, .int 0, .int 0, .int 0, .int 0, .long 0, .ref h54, .ref h55, .ref h56, .int 0, .int 0, .long 0]))]) (fun _ => rfl) (fun qs3 H locs hT => ?_)
  refine lv_iload (pc := 455) hx hb dL_law_455 (lv_at hl 1 rfl) ?_
  refine zb_icmp_eq_t (pc := 457) (tgt := 462) hx hb dL_law_457 (by decide) (by decide) ?_
  refine lv_iload (pc := 462) hx hb dL_law_462 (lv_at hl 1 rfl) ?_
  refine zb_if_ne_t (pc := 464) (tgt := 479) hx hb dL_law_464 (by decide) (by decide) ?_
  refine lv_goto (pc := 479) (tgt := 1719) hx hb dL_law_479 (by decide) ?_
  exact q_end hx hb hr hlk hX hbl hT (lv_sub hl [2, 6] rfl) (Nat.le_of_ble_eq_true rfl) (Nat.le_of_ble_eq_true rfl)
set_option maxHeartbeats 4000000 in
set_option maxRecDepth 100000 in
theorem q_join_3_big {p : Program} {l : Launch} {e : Env} {s : State} {m : MethodId} {below : List Frame} {meth : Method} {c : Code} {H : Heap} {locs : List Loc} {ls : Array Slot} {G : va_G} {cy : Nat → ClassId} {b : Nat} {xs : Nat → Int32} (C : zC l G cy p s m meth c b 6 xs) (h0 h1 h2 h3 h4 h5 h6 h7 h8 h9 h10 h11 h12 h13 h14 h15 h16 h17 h18 h19 h20 h21 h22 h23 h24 h25 h26 h27 h28 h29 h30 h31 h32 h33 h34 h35 h36 h37 h38 h39 h40 h41 h42 h43 h44 h45 h46 h47 h48 h49 h50 h51 h52 h53 h54 h55 h56 : Nat) (j : Nat) (k : Nat) (hloj : 0 ≤ j) (hhij : j < 6) (hlok : 0 ≤ k) (hhik : k < 6) (hs2 : xs 2 = (nI j)) (hs3 : xs 3 = (nI k)) (hb1 : ¬ ((xs 4) : Int32) < 0) (hb2 : ¬ ((xs 4) : Int32) < 6) (hb3 : (5 : Int32) < (xs 4)) (hT : zT G (fun q => s.heap.size ≤ q) s.heap H locs [(h0, .inr (11, [.ref h5, .ref h6, .ref h7, .ref h8, .ref h9, .ref h10, .ref h11, .ref h12, .ref h13, .ref h14, .ref h1, .int (-1), .int (-1), .int (-1), .int (-1)])), (h1, .inl (cy 0, 3, .inl (kc 0))), (h2, .inr (12, [.int 0, .ref h3, .int 0, .int 0, .int 0, .int (-1), .int 0, .int 0, .ref h15, .ref h16, .ref h17, .ref h18, .int 0, .ref h19, .ref h20, .int 0, .ref h21, .ref h22, .ref h23, .ref h24, .ref h25, .int 0, .ref h26, .ref h27, .ref h28, .int 0, .ref h29, .ref h30, .ref h31, .int 0, .int 0, .ref h32, .ref h33, .ref h34, .int 0, .long 0, .long 0, .ref h35, .ref h36, .ref h37, .ref h38, .ref h39, .ref h40, .ref h41, .ref h42, .ref h43, .ref h44, .int 0, .int 0, .ref h45, .ref h46, .ref h47, .ref h48, .ref h49, .ref h50, .ref h51, .ref h52, .ref h53, .int 0, .int 0, .int 0, .int 0, .long 0, .ref h54, .ref h55, .ref h56, .int 0, .int 0, .long 0])), (h3, .inl (cy 0, 3, .inl (kc 0)))]) (hl : lv_has ls 8 [(0, .ref b), (1, .ref h0), (2, .ref h2), (3, .ref h4), (4, .int 0)]) : W p l e (zR 1000 600002 7302232) s m #[Value.ref b] below meth c H locs 476 284354 (lw_Z below #[Value.ref b] s) (F0 m 390 ls []) := by
  obtain ⟨hl0, hx, hb, hr, hml, hown, hts, hX, hbl, hlk, hK, hE, q1, v1, q2, v2, hS⟩ := C
  have hA : ∀ q : Nat, s.heap.size ≤ q → (fun q => s.heap.size ≤ q) q := fun _ h => h
  have hbA : ¬ (fun q => s.heap.size ≤ q) b := Nat.not_le.mpr hbl
  refine lv_aload_n (pc := 390) hx hb dL_law_390 rfl (lv_at hl 1 rfl) ?_
  refine lv_aload_n (pc := 391) hx hb dL_law_391 rfl (lv_at hl 0 rfl) ?_
  refine lv_iload (pc := 392) hx hb dL_law_392 (lv_at hl 4 rfl) ?_
  refine lv_iconst (pc := 394) (v := 1) hx hb dL_law_394 (by decide) ?_
  refine z_iadd (pc := 395) (v := 1) hx hb dL_law_395 (by decide) ?_
  refine z_sld (pc := 396) (v := (xs 1)) hx hb hX hbl hbA hT 1 rfl (by decide) rfl dL_law_396 ?_
  refine lv_aload_n (pc := 397) hx hb dL_law_397 rfl (lv_at hl 0 rfl) ?_
  refine lv_iload (pc := 398) hx hb dL_law_398 (lv_at hl 4 rfl) ?_
  refine lv_iconst (pc := 400) (v := 2) hx hb dL_law_400 (by decide) ?_
  refine z_iadd (pc := 401) (v := 2) hx hb dL_law_401 (by decide) ?_
  refine z_sld (pc := 402) (v := (nI j)) hx hb hX hbl hbA hT 2 rfl (by decide) hs2 dL_law_402 ?_
  refine lv_aload_n (pc := 403) hx hb dL_law_403 rfl (lv_at hl 0 rfl) ?_
  refine lv_iload (pc := 404) hx hb dL_law_404 (lv_at hl 4 rfl) ?_
  refine lv_iconst (pc := 406) (v := 3) hx hb dL_law_406 (by decide) ?_
  refine z_iadd (pc := 407) (v := 3) hx hb dL_law_407 (by decide) ?_
  refine z_sld (pc := 408) (v := (nI k)) hx hb hX hbl hbA hT 3 rfl (by decide) hs3 dL_law_408 ?_
  refine lv_aload_n (pc := 409) hx hb dL_law_409 rfl (lv_at hl 0 rfl) ?_
  refine lv_iload (pc := 410) hx hb dL_law_410 (lv_at hl 4 rfl) ?_
  refine lv_iconst (pc := 412) (v := 4) hx hb dL_law_412 (by decide) ?_
  refine z_iadd (pc := 413) (v := 4) hx hb dL_law_413 (by decide) ?_
  refine z_sld (pc := 414) (v := (xs 4)) hx hb hX hbl hbA hT 4 rfl (by decide) rfl dL_law_414 ?_
  refine lv_aload_n (pc := 415) hx hb dL_law_415 rfl (lv_at hl 3 rfl) ?_
  refine z_eHI (pc := 416) zE_ok hE hx hb hml hown hts hK hA hT lkH_RL_108 ((k833_L_join l G cy hl0 h0 h1 h4 h5 h6 h7 h8 h9 h10 h11 h12 h13 h14 (xs 1) (xs 4) j k (by omega) (by omega) (by omega) (by omega) hb1 hb2).e) [0, 1] [2, 3] rfl rfl rfl rfl rfl (by decide) rfl hl.1 rfl (Nat.le_of_ble_eq_true rfl) dL_law_416 ⟨Nat.le_of_ble_eq_true rfl, Nat.le_of_ble_eq_true rfl⟩ (fun _ => [(h2, .inr (12, [.int 0, .ref h3, .int 0, .int 0, .int 0, .int (-1), .int 0, .int 0, .ref h15, .ref h16, .ref h17, .ref h18, .int 0, .ref h19, .ref h20, .int 0, .ref h21, .ref h22, .ref h23, .ref h24, .ref h25, .int 0, .ref h26, .ref h27, .ref h28, .int 0, .ref h29, .ref h30, .ref h31, .int 0, .int 0, .ref h32, .ref h33, .ref h34, .int 0, .long 0, .long 0, .ref h35, .ref h36, .ref h37, .ref h38, .ref h39, .ref h40, .ref h41, .ref h42, .ref h43, .ref h44, .int 0, .int 0, .ref h45, .ref h46, .ref h47, .ref h48, .ref h49, .ref h50, .ref h51, .ref h52, .ref h53, .int 0, .int 0, .int 0, .int 0, .long 0, .ref h54, .ref h55, .ref h56, .int 0, .int 0, .long 0])), (h3, .inl (cy 0, 3, .inl (kc 0)))]) (fun _ => rfl) (fun qs1 H locs hT => ?_)
  refine lv_istore (pc := 419) (lv' := [(5, .int 1), (0, .ref b), (1, .ref h0), (2, .ref h2), (3, .ref h4), (4, .int 0)]) hx hb dL_law_419 hl (by decide) rfl (fun ls hl => ?_)
  refine lv_aload_n (pc := 421) hx hb dL_law_421 rfl (lv_at hl 3 rfl) ?_
  refine lv_aload_n (pc := 422) hx hb dL_law_422 rfl (lv_at hl 1 rfl) ?_
  refine lv_iload (pc := 423) hx hb dL_law_423 (lv_at hl 5 rfl) ?_
  refine lv_iconst (pc := 425) (v := 1) hx hb dL_law_425 (by decide) ?_
  refine z_iadd (pc := 426) (v := 1) hx hb dL_law_426 (by decide) ?_
  refine z_sld (pc := 427) (v := (xs 1)) hx hb hX hbl hbA hT 1 rfl (by decide) rfl dL_law_427 ?_
  refine lv_aload_n (pc := 428) hx hb dL_law_428 rfl (lv_at hl 1 rfl) ?_
  refine lv_iload (pc := 429) hx hb dL_law_429 (lv_at hl 5 rfl) ?_
  refine lv_iconst (pc := 431) (v := 2) hx hb dL_law_431 (by decide) ?_
  refine z_iadd (pc := 432) (v := 2) hx hb dL_law_432 (by decide) ?_
  refine z_sld (pc := 433) (v := (nI j)) hx hb hX hbl hbA hT 2 rfl (by decide) hs2 dL_law_433 ?_
  refine lv_aload_n (pc := 434) hx hb dL_law_434 rfl (lv_at hl 1 rfl) ?_
  refine lv_iload (pc := 435) hx hb dL_law_435 (lv_at hl 5 rfl) ?_
  refine lv_iconst (pc := 437) (v := 3) hx hb dL_law_437 (by decide) ?_
  refine z_iadd (pc := 438) (v := 3) hx hb dL_law_438 (by decide) ?_
  refine z_sld (pc := 439) (v := (nI k)) hx hb hX hbl hbA hT 3 rfl (by decide) hs3 dL_law_439 ?_
  refine lv_aload_n (pc := 440) hx hb dL_law_440 rfl (lv_at hl 1 rfl) ?_
  refine lv_iload (pc := 441) hx hb dL_law_441 (lv_at hl 5 rfl) ?_
  refine lv_iconst (pc := 443) (v := 4) hx hb dL_law_443 (by decide) ?_
  refine z_iadd (pc := 444) (v := 4) hx hb dL_law_444 (by decide) ?_
  refine z_sld (pc := 445) (v := (xs 4)) hx hb hX hbl hbA hT 4 rfl (by decide) rfl dL_law_445 ?_
  refine z_cVI (pc := 446) hx hb hml hown hts hK hA hT lkV_RL_111 (k634_X12_join l G cy h2 h3 h15 h16 h17 h18 h19 h20 h21 h22 h23 h24 h25 h26 h27 h28 h29 h30 h31 h32 h33 h34 h35 h36 h37 h38 h39 h40 h41 h42 h43 h44 h45 h46 h47 h48 h49 h50 h51 h52 h53 h54 h55 h56 (xs 1) (xs 4) j k (by omega) (by omega) (by omega) (by omega) hb1 hb3) [0, 1] [] rfl rfl rfl rfl rfl 0 rfl rfl (by decide) rfl hl.1 rfl (Nat.le_of_ble_eq_true rfl) dL_law_446 ⟨Nat.le_of_ble_eq_true rfl, Nat.le_of_ble_eq_true rfl⟩ (fun _ => [(h2, .inr (12, [.int 1, .ref h3, .int 0, .int 0, .int 0, .int (-1), .int 0, .int 0, .ref h15, .ref h16, .ref h17, .ref h18, .int 0, .ref h19, .ref h20, .int 0, .ref h21, .ref h22, .ref h23, .ref h24, .ref h25, .int 0, .ref h26, .ref h27, .ref h28, .int 0, .ref h29, .ref h30, .ref h31, .int 0, .int 0, .ref h32, .ref h33, .ref h34, .int 0, .long 0, .long 0, .ref h35, .ref h36, .ref h37, .ref h38, .ref h39, .ref h40, .ref h41, .ref h42, .ref h43, .ref h44, .int 0, .int 0, .ref h45, .ref h46, .ref h47, .ref h48, .ref h49, .ref h50, .ref h51, .ref h52, .ref h53, .int 0, .int 0, .int 0, .int 0, .long 0, .ref h54, .ref h55, .ref h56, .int 0, .int 0, .long 0]))]) (fun _ => rfl) (fun qs2 H locs hT => ?_)
  refine lv_istore (pc := 449) (lv' := [(6, .int 0), (5, .int 1), (0, .ref b), (1, .ref h0), (2, .ref h2), (3, .ref h4), (4, .int 0)]) hx hb dL_law_449 hl (by decide) rfl (fun ls hl => ?_)
  refine lv_aload_n (pc := 451) hx hb dL_law_451 rfl (lv_at hl 4 rfl) ?_
  refine z_cVI (pc := 452) hx hb hml hown hts hK hA hT lkV_RL_96 (k1051_X12_thrown l G cy h2 h3 h15 h16 h17 h18 h19 h20 h21 h22 h23 h24 h25 h26 h27 h28 h29 h30 h31 h32 h33 h34 h35 h36 h37 h38 h39 h40 h41 h42 h43 h44 h45 h46 h47 h48 h49 h50 h51 h52 h53 h54 h55 h56) [0] [] rfl rfl rfl rfl rfl 0 rfl rfl (by decide) rfl hl.1 rfl (Nat.le_of_ble_eq_true rfl) dL_law_452 ⟨Nat.le_of_ble_eq_true rfl, Nat.le_of_ble_eq_true rfl⟩ (fun _ => [(h2, .inr (12, [.int 1, .ref h3, .int 0, .int 0, .int 0, .int (-1), .int 0, .int 0, .ref h15, .ref h16, .ref h17, .ref h18, .int 0, .ref h19, .ref h20, .int 0, .ref h21, .ref h22, .ref h23, .ref h24, .ref h25, .int 0, .ref h26, .ref h27, .ref h28, .int 0, .ref h29, .ref h30, .ref h31, .int 0, .int 0, .ref h32, .ref h33, .ref h34, .int 0, .long 0, .long 0, .ref h35, .ref h36, .ref h37, .ref h38, .ref h39, .ref h40, .ref h41, .ref h42, .ref h43, .ref h44, .int 0, .int 0, .ref h45, .ref h46, .ref h47, .ref h48, .ref h49, .ref h50, .ref h51, .ref h52, .ref h53, .int 0, .int 0, .int 0, .int 0, .long 0, .ref h54, .ref h55, .ref h56, .int 0, .int 0, .long 0]))]) (fun _ => rfl) (fun qs3 H locs hT => ?_)
  refine lv_iload (pc := 455) hx hb dL_law_455 (lv_at hl 1 rfl) ?_
  refine zb_icmp_eq_t (pc := 457) (tgt := 462) hx hb dL_law_457 (by decide) (by decide) ?_
  refine lv_iload (pc := 462) hx hb dL_law_462 (lv_at hl 1 rfl) ?_
  refine zb_if_ne_t (pc := 464) (tgt := 479) hx hb dL_law_464 (by decide) (by decide) ?_
  refine lv_goto (pc := 479) (tgt := 1719) hx hb dL_law_479 (by decide) ?_
  exact q_end hx hb hr hlk hX hbl hT (lv_sub hl [2, 6] rfl) (Nat.le_of_ble_eq_true rfl) (Nat.le_of_ble_eq_true rfl)
set_option maxHeartbeats 4000000 in
set_option maxRecDepth 100000 in
theorem q_join_0_neg {p : Program} {l : Launch} {e : Env} {s : State} {m : MethodId} {below : List Frame} {meth : Method} {c : Code} {H : Heap} {locs : List Loc} {ls : Array Slot} {G : va_G} {cy : Nat → ClassId} {b : Nat} {xs : Nat → Int32} (C : zC l G cy p s m meth c b 6 xs) (h0 h1 h2 h3 h4 h5 h6 h7 h8 h9 h10 h11 h12 h13 h14 h15 h16 h17 h18 h19 h20 h21 h22 h23 h24 h25 h26 h27 h28 h29 h30 h31 h32 h33 h34 h35 h36 h37 h38 h39 h40 h41 h42 h43 h44 h45 h46 h47 h48 h49 h50 h51 h52 h53 h54 h55 h56 : Nat) (j : Nat) (k : Nat) (t : Nat) (hloj : 0 ≤ j) (hhij : j < 6) (hlok : 0 ≤ k) (hhik : k < 6) (hlot : 0 ≤ t) (hhit : t < 6) (hs2 : xs 2 = (nI j)) (hs3 : xs 3 = (nI k)) (hs4 : xs 4 = (nI t)) (hneg : ((xs 1) : Int32) < 8) (hT : zT G (fun q => s.heap.size ≤ q) s.heap H locs [(h0, .inr (11, [.ref h5, .ref h6, .ref h7, .ref h8, .ref h9, .ref h10, .ref h11, .ref h12, .ref h13, .ref h14, .ref h1, .int (-1), .int (-1), .int (-1), .int (-1)])), (h1, .inl (cy 0, 3, .inl (kc 0))), (h2, .inr (12, [.int 0, .ref h3, .int 0, .int 0, .int 0, .int (-1), .int 0, .int 0, .ref h15, .ref h16, .ref h17, .ref h18, .int 0, .ref h19, .ref h20, .int 0, .ref h21, .ref h22, .ref h23, .ref h24, .ref h25, .int 0, .ref h26, .ref h27, .ref h28, .int 0, .ref h29, .ref h30, .ref h31, .int 0, .int 0, .ref h32, .ref h33, .ref h34, .int 0, .long 0, .long 0, .ref h35, .ref h36, .ref h37, .ref h38, .ref h39, .ref h40, .ref h41, .ref h42, .ref h43, .ref h44, .int 0, .int 0, .ref h45, .ref h46, .ref h47, .ref h48, .ref h49, .ref h50, .ref h51, .ref h52, .ref h53, .int 0, .int 0, .int 0, .int 0, .long 0, .ref h54, .ref h55, .ref h56, .int 0, .int 0, .long 0])), (h3, .inl (cy 0, 3, .inl (kc 0)))]) (hl : lv_has ls 8 [(0, .ref b), (1, .ref h0), (2, .ref h2), (3, .ref h4), (4, .int 0)]) : W p l e (zR 1000 600002 7302232) s m #[Value.ref b] below meth c H locs 476 284354 (lw_Z below #[Value.ref b] s) (F0 m 390 ls []) := by
  obtain ⟨hl0, hx, hb, hr, hml, hown, hts, hX, hbl, hlk, hK, hE, q1, v1, q2, v2, hS⟩ := C
  have hA : ∀ q : Nat, s.heap.size ≤ q → (fun q => s.heap.size ≤ q) q := fun _ h => h
  have hbA : ¬ (fun q => s.heap.size ≤ q) b := Nat.not_le.mpr hbl
  refine lv_aload_n (pc := 390) hx hb dL_law_390 rfl (lv_at hl 1 rfl) ?_
  refine lv_aload_n (pc := 391) hx hb dL_law_391 rfl (lv_at hl 0 rfl) ?_
  refine lv_iload (pc := 392) hx hb dL_law_392 (lv_at hl 4 rfl) ?_
  refine lv_iconst (pc := 394) (v := 1) hx hb dL_law_394 (by decide) ?_
  refine z_iadd (pc := 395) (v := 1) hx hb dL_law_395 (by decide) ?_
  refine z_sld (pc := 396) (v := (xs 1)) hx hb hX hbl hbA hT 1 rfl (by decide) rfl dL_law_396 ?_
  refine lv_aload_n (pc := 397) hx hb dL_law_397 rfl (lv_at hl 0 rfl) ?_
  refine lv_iload (pc := 398) hx hb dL_law_398 (lv_at hl 4 rfl) ?_
  refine lv_iconst (pc := 400) (v := 2) hx hb dL_law_400 (by decide) ?_
  refine z_iadd (pc := 401) (v := 2) hx hb dL_law_401 (by decide) ?_
  refine z_sld (pc := 402) (v := (nI j)) hx hb hX hbl hbA hT 2 rfl (by decide) hs2 dL_law_402 ?_
  refine lv_aload_n (pc := 403) hx hb dL_law_403 rfl (lv_at hl 0 rfl) ?_
  refine lv_iload (pc := 404) hx hb dL_law_404 (lv_at hl 4 rfl) ?_
  refine lv_iconst (pc := 406) (v := 3) hx hb dL_law_406 (by decide) ?_
  refine z_iadd (pc := 407) (v := 3) hx hb dL_law_407 (by decide) ?_
  refine z_sld (pc := 408) (v := (nI k)) hx hb hX hbl hbA hT 3 rfl (by decide) hs3 dL_law_408 ?_
  refine lv_aload_n (pc := 409) hx hb dL_law_409 rfl (lv_at hl 0 rfl) ?_
  refine lv_iload (pc := 410) hx hb dL_law_410 (lv_at hl 4 rfl) ?_
  refine lv_iconst (pc := 412) (v := 4) hx hb dL_law_412 (by decide) ?_
  refine z_iadd (pc := 413) (v := 4) hx hb dL_law_413 (by decide) ?_
  refine z_sld (pc := 414) (v := (nI t)) hx hb hX hbl hbA hT 4 rfl (by decide) hs4 dL_law_414 ?_
  refine lv_aload_n (pc := 415) hx hb dL_law_415 rfl (lv_at hl 3 rfl) ?_
  refine z_eHI (pc := 416) zE_ok hE hx hb hml hown hts hK hA hT lkH_RL_108 ((k834_L_join l G cy hl0 h0 h1 h4 h5 h6 h7 h8 h9 h10 h11 h12 h13 h14 (xs 1) j k t (by omega) (by omega) (by omega) (by omega) (by omega) (by omega) hneg).e) [0, 1] [2, 3] rfl rfl rfl rfl rfl (by decide) rfl hl.1 rfl (Nat.le_of_ble_eq_true rfl) dL_law_416 ⟨Nat.le_of_ble_eq_true rfl, Nat.le_of_ble_eq_true rfl⟩ (fun _ => [(h2, .inr (12, [.int 0, .ref h3, .int 0, .int 0, .int 0, .int (-1), .int 0, .int 0, .ref h15, .ref h16, .ref h17, .ref h18, .int 0, .ref h19, .ref h20, .int 0, .ref h21, .ref h22, .ref h23, .ref h24, .ref h25, .int 0, .ref h26, .ref h27, .ref h28, .int 0, .ref h29, .ref h30, .ref h31, .int 0, .int 0, .ref h32, .ref h33, .ref h34, .int 0, .long 0, .long 0, .ref h35, .ref h36, .ref h37, .ref h38, .ref h39, .ref h40, .ref h41, .ref h42, .ref h43, .ref h44, .int 0, .int 0, .ref h45, .ref h46, .ref h47, .ref h48, .ref h49, .ref h50, .ref h51, .ref h52, .ref h53, .int 0, .int 0, .int 0, .int 0, .long 0, .ref h54, .ref h55, .ref h56, .int 0, .int 0, .long 0])), (h3, .inl (cy 0, 3, .inl (kc 0)))]) (fun _ => rfl) (fun qs1 H locs hT => ?_)
  refine lv_istore (pc := 419) (lv' := [(5, .int 2), (0, .ref b), (1, .ref h0), (2, .ref h2), (3, .ref h4), (4, .int 0)]) hx hb dL_law_419 hl (by decide) rfl (fun ls hl => ?_)
  refine lv_aload_n (pc := 421) hx hb dL_law_421 rfl (lv_at hl 3 rfl) ?_
  refine lv_aload_n (pc := 422) hx hb dL_law_422 rfl (lv_at hl 1 rfl) ?_
  refine lv_iload (pc := 423) hx hb dL_law_423 (lv_at hl 5 rfl) ?_
  refine lv_iconst (pc := 425) (v := 1) hx hb dL_law_425 (by decide) ?_
  refine z_iadd (pc := 426) (v := 1) hx hb dL_law_426 (by decide) ?_
  refine z_sld (pc := 427) (v := (xs 1)) hx hb hX hbl hbA hT 1 rfl (by decide) rfl dL_law_427 ?_
  refine lv_aload_n (pc := 428) hx hb dL_law_428 rfl (lv_at hl 1 rfl) ?_
  refine lv_iload (pc := 429) hx hb dL_law_429 (lv_at hl 5 rfl) ?_
  refine lv_iconst (pc := 431) (v := 2) hx hb dL_law_431 (by decide) ?_
  refine z_iadd (pc := 432) (v := 2) hx hb dL_law_432 (by decide) ?_
  refine z_sld (pc := 433) (v := (nI j)) hx hb hX hbl hbA hT 2 rfl (by decide) hs2 dL_law_433 ?_
  refine lv_aload_n (pc := 434) hx hb dL_law_434 rfl (lv_at hl 1 rfl) ?_
  refine lv_iload (pc := 435) hx hb dL_law_435 (lv_at hl 5 rfl) ?_
  refine lv_iconst (pc := 437) (v := 3) hx hb dL_law_437 (by decide) ?_
  refine z_iadd (pc := 438) (v := 3) hx hb dL_law_438 (by decide) ?_
  refine z_sld (pc := 439) (v := (nI k)) hx hb hX hbl hbA hT 3 rfl (by decide) hs3 dL_law_439 ?_
  refine lv_aload_n (pc := 440) hx hb dL_law_440 rfl (lv_at hl 1 rfl) ?_
  refine lv_iload (pc := 441) hx hb dL_law_441 (lv_at hl 5 rfl) ?_
  refine lv_iconst (pc := 443) (v := 4) hx hb dL_law_443 (by decide) ?_
  refine z_iadd (pc := 444) (v := 4) hx hb dL_law_444 (by decide) ?_
  refine z_sld (pc := 445) (v := (nI t)) hx hb hX hbl hbA hT 4 rfl (by decide) hs4 dL_law_445 ?_
  refine z_cVI (pc := 446) hx hb hml hown hts hK hA hT lkV_RL_111 (k636_X12_join l G cy h2 h3 h15 h16 h17 h18 h19 h20 h21 h22 h23 h24 h25 h26 h27 h28 h29 h30 h31 h32 h33 h34 h35 h36 h37 h38 h39 h40 h41 h42 h43 h44 h45 h46 h47 h48 h49 h50 h51 h52 h53 h54 h55 h56 (xs 1) j k t (by omega) (by omega) (by omega) (by omega) (by omega) (by omega) hneg) [0, 1] [] rfl rfl rfl rfl rfl 0 rfl rfl (by decide) rfl hl.1 rfl (Nat.le_of_ble_eq_true rfl) dL_law_446 ⟨Nat.le_of_ble_eq_true rfl, Nat.le_of_ble_eq_true rfl⟩ (fun _ => [(h2, .inr (12, [.int 2, .ref h3, .int 0, .int 0, .int 0, .int (-1), .int 0, .int 0, .ref h15, .ref h16, .ref h17, .ref h18, .int 0, .ref h19, .ref h20, .int 0, .ref h21, .ref h22, .ref h23, .ref h24, .ref h25, .int 0, .ref h26, .ref h27, .ref h28, .int 0, .ref h29, .ref h30, .ref h31, .int 0, .int 0, .ref h32, .ref h33, .ref h34, .int 0, .long 0, .long 0, .ref h35, .ref h36, .ref h37, .ref h38, .ref h39, .ref h40, .ref h41, .ref h42, .ref h43, .ref h44, .int 0, .int 0, .ref h45, .ref h46, .ref h47, .ref h48, .ref h49, .ref h50, .ref h51, .ref h52, .ref h53, .int 0, .int 0, .int 0, .int 0, .long 0, .ref h54, .ref h55, .ref h56, .int 0, .int 0, .long 0]))]) (fun _ => rfl) (fun qs2 H locs hT => ?_)
  refine lv_istore (pc := 449) (lv' := [(6, .int 0), (5, .int 2), (0, .ref b), (1, .ref h0), (2, .ref h2), (3, .ref h4), (4, .int 0)]) hx hb dL_law_449 hl (by decide) rfl (fun ls hl => ?_)
  refine lv_aload_n (pc := 451) hx hb dL_law_451 rfl (lv_at hl 4 rfl) ?_
  refine z_cVI (pc := 452) hx hb hml hown hts hK hA hT lkV_RL_96 (k1052_X12_thrown l G cy h2 h3 h15 h16 h17 h18 h19 h20 h21 h22 h23 h24 h25 h26 h27 h28 h29 h30 h31 h32 h33 h34 h35 h36 h37 h38 h39 h40 h41 h42 h43 h44 h45 h46 h47 h48 h49 h50 h51 h52 h53 h54 h55 h56) [0] [] rfl rfl rfl rfl rfl 0 rfl rfl (by decide) rfl hl.1 rfl (Nat.le_of_ble_eq_true rfl) dL_law_452 ⟨Nat.le_of_ble_eq_true rfl, Nat.le_of_ble_eq_true rfl⟩ (fun _ => [(h2, .inr (12, [.int 2, .ref h3, .int 0, .int 0, .int 0, .int (-1), .int 0, .int 0, .ref h15, .ref h16, .ref h17, .ref h18, .int 0, .ref h19, .ref h20, .int 0, .ref h21, .ref h22, .ref h23, .ref h24, .ref h25, .int 0, .ref h26, .ref h27, .ref h28, .int 0, .ref h29, .ref h30, .ref h31, .int 0, .int 0, .ref h32, .ref h33, .ref h34, .int 0, .long 0, .long 0, .ref h35, .ref h36, .ref h37, .ref h38, .ref h39, .ref h40, .ref h41, .ref h42, .ref h43, .ref h44, .int 0, .int 0, .ref h45, .ref h46, .ref h47, .ref h48, .ref h49, .ref h50, .ref h51, .ref h52, .ref h53, .int 0, .int 0, .int 0, .int 0, .long 0, .ref h54, .ref h55, .ref h56, .int 0, .int 0, .long 0]))]) (fun _ => rfl) (fun qs3 H locs hT => ?_)
  refine lv_iload (pc := 455) hx hb dL_law_455 (lv_at hl 1 rfl) ?_
  refine zb_icmp_eq_t (pc := 457) (tgt := 462) hx hb dL_law_457 (by decide) (by decide) ?_
  refine lv_iload (pc := 462) hx hb dL_law_462 (lv_at hl 1 rfl) ?_
  refine zb_if_ne_t (pc := 464) (tgt := 479) hx hb dL_law_464 (by decide) (by decide) ?_
  refine lv_goto (pc := 479) (tgt := 1719) hx hb dL_law_479 (by decide) ?_
  exact q_end hx hb hr hlk hX hbl hT (lv_sub hl [2, 6] rfl) (Nat.le_of_ble_eq_true rfl) (Nat.le_of_ble_eq_true rfl)
set_option maxHeartbeats 4000000 in
set_option maxRecDepth 100000 in
theorem q_join_0_big {p : Program} {l : Launch} {e : Env} {s : State} {m : MethodId} {below : List Frame} {meth : Method} {c : Code} {H : Heap} {locs : List Loc} {ls : Array Slot} {G : va_G} {cy : Nat → ClassId} {b : Nat} {xs : Nat → Int32} (C : zC l G cy p s m meth c b 6 xs) (h0 h1 h2 h3 h4 h5 h6 h7 h8 h9 h10 h11 h12 h13 h14 h15 h16 h17 h18 h19 h20 h21 h22 h23 h24 h25 h26 h27 h28 h29 h30 h31 h32 h33 h34 h35 h36 h37 h38 h39 h40 h41 h42 h43 h44 h45 h46 h47 h48 h49 h50 h51 h52 h53 h54 h55 h56 : Nat) (j : Nat) (k : Nat) (t : Nat) (hloj : 0 ≤ j) (hhij : j < 6) (hlok : 0 ≤ k) (hhik : k < 6) (hlot : 0 ≤ t) (hhit : t < 6) (hs2 : xs 2 = (nI j)) (hs3 : xs 3 = (nI k)) (hs4 : xs 4 = (nI t)) (hb1 : ¬ ((xs 1) : Int32) < 8) (hb2 : (10 : Int32) < (xs 1)) (hT : zT G (fun q => s.heap.size ≤ q) s.heap H locs [(h0, .inr (11, [.ref h5, .ref h6, .ref h7, .ref h8, .ref h9, .ref h10, .ref h11, .ref h12, .ref h13, .ref h14, .ref h1, .int (-1), .int (-1), .int (-1), .int (-1)])), (h1, .inl (cy 0, 3, .inl (kc 0))), (h2, .inr (12, [.int 0, .ref h3, .int 0, .int 0, .int 0, .int (-1), .int 0, .int 0, .ref h15, .ref h16, .ref h17, .ref h18, .int 0, .ref h19, .ref h20, .int 0, .ref h21, .ref h22, .ref h23, .ref h24, .ref h25, .int 0, .ref h26, .ref h27, .ref h28, .int 0, .ref h29, .ref h30, .ref h31, .int 0, .int 0, .ref h32, .ref h33, .ref h34, .int 0, .long 0, .long 0, .ref h35, .ref h36, .ref h37, .ref h38, .ref h39, .ref h40, .ref h41, .ref h42, .ref h43, .ref h44, .int 0, .int 0, .ref h45, .ref h46, .ref h47, .ref h48, .ref h49, .ref h50, .ref h51, .ref h52, .ref h53, .int 0, .int 0, .int 0, .int 0, .long 0, .ref h54, .ref h55, .ref h56, .int 0, .int 0, .long 0])), (h3, .inl (cy 0, 3, .inl (kc 0)))]) (hl : lv_has ls 8 [(0, .ref b), (1, .ref h0), (2, .ref h2), (3, .ref h4), (4, .int 0)]) : W p l e (zR 1000 600002 7302232) s m #[Value.ref b] below meth c H locs 476 284354 (lw_Z below #[Value.ref b] s) (F0 m 390 ls []) := by
  obtain ⟨hl0, hx, hb, hr, hml, hown, hts, hX, hbl, hlk, hK, hE, q1, v1, q2, v2, hS⟩ := C
  have hA : ∀ q : Nat, s.heap.size ≤ q → (fun q => s.heap.size ≤ q) q := fun _ h => h
  have hbA : ¬ (fun q => s.heap.size ≤ q) b := Nat.not_le.mpr hbl
  refine lv_aload_n (pc := 390) hx hb dL_law_390 rfl (lv_at hl 1 rfl) ?_
  refine lv_aload_n (pc := 391) hx hb dL_law_391 rfl (lv_at hl 0 rfl) ?_
  refine lv_iload (pc := 392) hx hb dL_law_392 (lv_at hl 4 rfl) ?_
  refine lv_iconst (pc := 394) (v := 1) hx hb dL_law_394 (by decide) ?_
  refine z_iadd (pc := 395) (v := 1) hx hb dL_law_395 (by decide) ?_
  refine z_sld (pc := 396) (v := (xs 1)) hx hb hX hbl hbA hT 1 rfl (by decide) rfl dL_law_396 ?_
  refine lv_aload_n (pc := 397) hx hb dL_law_397 rfl (lv_at hl 0 rfl) ?_
  refine lv_iload (pc := 398) hx hb dL_law_398 (lv_at hl 4 rfl) ?_
  refine lv_iconst (pc := 400) (v := 2) hx hb dL_law_400 (by decide) ?_
  refine z_iadd (pc := 401) (v := 2) hx hb dL_law_401 (by decide) ?_
  refine z_sld (pc := 402) (v := (nI j)) hx hb hX hbl hbA hT 2 rfl (by decide) hs2 dL_law_402 ?_
  refine lv_aload_n (pc := 403) hx hb dL_law_403 rfl (lv_at hl 0 rfl) ?_
  refine lv_iload (pc := 404) hx hb dL_law_404 (lv_at hl 4 rfl) ?_
  refine lv_iconst (pc := 406) (v := 3) hx hb dL_law_406 (by decide) ?_
  refine z_iadd (pc := 407) (v := 3) hx hb dL_law_407 (by decide) ?_
  refine z_sld (pc := 408) (v := (nI k)) hx hb hX hbl hbA hT 3 rfl (by decide) hs3 dL_law_408 ?_
  refine lv_aload_n (pc := 409) hx hb dL_law_409 rfl (lv_at hl 0 rfl) ?_
  refine lv_iload (pc := 410) hx hb dL_law_410 (lv_at hl 4 rfl) ?_
  refine lv_iconst (pc := 412) (v := 4) hx hb dL_law_412 (by decide) ?_
  refine z_iadd (pc := 413) (v := 4) hx hb dL_law_413 (by decide) ?_
  refine z_sld (pc := 414) (v := (nI t)) hx hb hX hbl hbA hT 4 rfl (by decide) hs4 dL_law_414 ?_
  refine lv_aload_n (pc := 415) hx hb dL_law_415 rfl (lv_at hl 3 rfl) ?_
  refine z_eHI (pc := 416) zE_ok hE hx hb hml hown hts hK hA hT lkH_RL_108 ((k835_L_join l G cy hl0 h0 h1 h4 h5 h6 h7 h8 h9 h10 h11 h12 h13 h14 (xs 1) j k t (by omega) (by omega) (by omega) (by omega) (by omega) (by omega) hb1 hb2).e) [0, 1] [2, 3] rfl rfl rfl rfl rfl (by decide) rfl hl.1 rfl (Nat.le_of_ble_eq_true rfl) dL_law_416 ⟨Nat.le_of_ble_eq_true rfl, Nat.le_of_ble_eq_true rfl⟩ (fun _ => [(h2, .inr (12, [.int 0, .ref h3, .int 0, .int 0, .int 0, .int (-1), .int 0, .int 0, .ref h15, .ref h16, .ref h17, .ref h18, .int 0, .ref h19, .ref h20, .int 0, .ref h21, .ref h22, .ref h23, .ref h24, .ref h25, .int 0, .ref h26, .ref h27, .ref h28, .int 0, .ref h29, .ref h30, .ref h31, .int 0, .int 0, .ref h32, .ref h33, .ref h34, .int 0, .long 0, .long 0, .ref h35, .ref h36, .ref h37, .ref h38, .ref h39, .ref h40, .ref h41, .ref h42, .ref h43, .ref h44, .int 0, .int 0, .ref h45, .ref h46, .ref h47, .ref h48, .ref h49, .ref h50, .ref h51, .ref h52, .ref h53, .int 0, .int 0, .int 0, .int 0, .long 0, .ref h54, .ref h55, .ref h56, .int 0, .int 0, .long 0])), (h3, .inl (cy 0, 3, .inl (kc 0)))]) (fun _ => rfl) (fun qs1 H locs hT => ?_)
  refine lv_istore (pc := 419) (lv' := [(5, .int 2), (0, .ref b), (1, .ref h0), (2, .ref h2), (3, .ref h4), (4, .int 0)]) hx hb dL_law_419 hl (by decide) rfl (fun ls hl => ?_)
  refine lv_aload_n (pc := 421) hx hb dL_law_421 rfl (lv_at hl 3 rfl) ?_
  refine lv_aload_n (pc := 422) hx hb dL_law_422 rfl (lv_at hl 1 rfl) ?_
  refine lv_iload (pc := 423) hx hb dL_law_423 (lv_at hl 5 rfl) ?_
  refine lv_iconst (pc := 425) (v := 1) hx hb dL_law_425 (by decide) ?_
  refine z_iadd (pc := 426) (v := 1) hx hb dL_law_426 (by decide) ?_
  refine z_sld (pc := 427) (v := (xs 1)) hx hb hX hbl hbA hT 1 rfl (by decide) rfl dL_law_427 ?_
  refine lv_aload_n (pc := 428) hx hb dL_law_428 rfl (lv_at hl 1 rfl) ?_
  refine lv_iload (pc := 429) hx hb dL_law_429 (lv_at hl 5 rfl) ?_
  refine lv_iconst (pc := 431) (v := 2) hx hb dL_law_431 (by decide) ?_
  refine z_iadd (pc := 432) (v := 2) hx hb dL_law_432 (by decide) ?_
  refine z_sld (pc := 433) (v := (nI j)) hx hb hX hbl hbA hT 2 rfl (by decide) hs2 dL_law_433 ?_
  refine lv_aload_n (pc := 434) hx hb dL_law_434 rfl (lv_at hl 1 rfl) ?_
  refine lv_iload (pc := 435) hx hb dL_law_435 (lv_at hl 5 rfl) ?_
  refine lv_iconst (pc := 437) (v := 3) hx hb dL_law_437 (by decide) ?_
  refine z_iadd (pc := 438) (v := 3) hx hb dL_law_438 (by decide) ?_
  refine z_sld (pc := 439) (v := (nI k)) hx hb hX hbl hbA hT 3 rfl (by decide) hs3 dL_law_439 ?_
  refine lv_aload_n (pc := 440) hx hb dL_law_440 rfl (lv_at hl 1 rfl) ?_
  refine lv_iload (pc := 441) hx hb dL_law_441 (lv_at hl 5 rfl) ?_
  refine lv_iconst (pc := 443) (v := 4) hx hb dL_law_443 (by decide) ?_
  refine z_iadd (pc := 444) (v := 4) hx hb dL_law_444 (by decide) ?_
  refine z_sld (pc := 445) (v := (nI t)) hx hb hX hbl hbA hT 4 rfl (by decide) hs4 dL_law_445 ?_
  refine z_cVI (pc := 446) hx hb hml hown hts hK hA hT lkV_RL_111 (k638_X12_join l G cy h2 h3 h15 h16 h17 h18 h19 h20 h21 h22 h23 h24 h25 h26 h27 h28 h29 h30 h31 h32 h33 h34 h35 h36 h37 h38 h39 h40 h41 h42 h43 h44 h45 h46 h47 h48 h49 h50 h51 h52 h53 h54 h55 h56 (xs 1) j k t (by omega) (by omega) (by omega) (by omega) (by omega) (by omega) hb1 hb2) [0, 1] [] rfl rfl rfl rfl rfl 0 rfl rfl (by decide) rfl hl.1 rfl (Nat.le_of_ble_eq_true rfl) dL_law_446 ⟨Nat.le_of_ble_eq_true rfl, Nat.le_of_ble_eq_true rfl⟩ (fun _ => [(h2, .inr (12, [.int 2, .ref h3, .int 0, .int 0, .int 0, .int (-1), .int 0, .int 0, .ref h15, .ref h16, .ref h17, .ref h18, .int 0, .ref h19, .ref h20, .int 0, .ref h21, .ref h22, .ref h23, .ref h24, .ref h25, .int 0, .ref h26, .ref h27, .ref h28, .int 0, .ref h29, .ref h30, .ref h31, .int 0, .int 0, .ref h32, .ref h33, .ref h34, .int 0, .long 0, .long 0, .ref h35, .ref h36, .ref h37, .ref h38, .ref h39, .ref h40, .ref h41, .ref h42, .ref h43, .ref h44, .int 0, .int 0, .ref h45, .ref h46, .ref h47, .ref h48, .ref h49, .ref h50, .ref h51, .ref h52, .ref h53, .int 0, .int 0, .int 0, .int 0, .long 0, .ref h54, .ref h55, .ref h56, .int 0, .int 0, .long 0]))]) (fun _ => rfl) (fun qs2 H locs hT => ?_)
  refine lv_istore (pc := 449) (lv' := [(6, .int 0), (5, .int 2), (0, .ref b), (1, .ref h0), (2, .ref h2), (3, .ref h4), (4, .int 0)]) hx hb dL_law_449 hl (by decide) rfl (fun ls hl => ?_)
  refine lv_aload_n (pc := 451) hx hb dL_law_451 rfl (lv_at hl 4 rfl) ?_
  refine z_cVI (pc := 452) hx hb hml hown hts hK hA hT lkV_RL_96 (k1052_X12_thrown l G cy h2 h3 h15 h16 h17 h18 h19 h20 h21 h22 h23 h24 h25 h26 h27 h28 h29 h30 h31 h32 h33 h34 h35 h36 h37 h38 h39 h40 h41 h42 h43 h44 h45 h46 h47 h48 h49 h50 h51 h52 h53 h54 h55 h56) [0] [] rfl rfl rfl rfl rfl 0 rfl rfl (by decide) rfl hl.1 rfl (Nat.le_of_ble_eq_true rfl) dL_law_452 ⟨Nat.le_of_ble_eq_true rfl, Nat.le_of_ble_eq_true rfl⟩ (fun _ => [(h2, .inr (12, [.int 2, .ref h3, .int 0, .int 0, .int 0, .int (-1), .int 0, .int 0, .ref h15, .ref h16, .ref h17, .ref h18, .int 0, .ref h19, .ref h20, .int 0, .ref h21, .ref h22, .ref h23, .ref h24, .ref h25, .int 0, .ref h26, .ref h27, .ref h28, .int 0, .ref h29, .ref h30, .ref h31, .int 0, .int 0, .ref h32, .ref h33, .ref h34, .int 0, .long 0, .long 0, .ref h35, .ref h36, .ref h37, .ref h38, .ref h39, .ref h40, .ref h41, .ref h42, .ref h43, .ref h44, .int 0, .int 0, .ref h45, .ref h46, .ref h47, .ref h48, .ref h49, .ref h50, .ref h51, .ref h52, .ref h53, .int 0, .int 0, .int 0, .int 0, .long 0, .ref h54, .ref h55, .ref h56, .int 0, .int 0, .long 0]))]) (fun _ => rfl) (fun qs3 H locs hT => ?_)
  refine lv_iload (pc := 455) hx hb dL_law_455 (lv_at hl 1 rfl) ?_
  refine zb_icmp_eq_t (pc := 457) (tgt := 462) hx hb dL_law_457 (by decide) (by decide) ?_
  refine lv_iload (pc := 462) hx hb dL_law_462 (lv_at hl 1 rfl) ?_
  refine zb_if_ne_t (pc := 464) (tgt := 479) hx hb dL_law_464 (by decide) (by decide) ?_
  refine lv_goto (pc := 479) (tgt := 1719) hx hb dL_law_479 (by decide) ?_
  exact q_end hx hb hr hlk hX hbl hT (lv_sub hl [2, 6] rfl) (Nat.le_of_ble_eq_true rfl) (Nat.le_of_ble_eq_true rfl)
set_option maxHeartbeats 4000000 in
set_option maxRecDepth 100000 in
theorem q_told_0_neg {p : Program} {l : Launch} {e : Env} {s : State} {m : MethodId} {below : List Frame} {meth : Method} {c : Code} {H : Heap} {locs : List Loc} {ls : Array Slot} {G : va_G} {cy : Nat → ClassId} {b : Nat} {xs : Nat → Int32} (C : zC l G cy p s m meth c b 6 xs) (h0 h1 h2 h3 h4 h5 h6 h7 h8 h9 h10 h11 h12 h13 h14 h15 h16 h17 h18 h19 h20 h21 h22 h23 h24 h25 h26 h27 h28 h29 h30 h31 h32 h33 h34 h35 h36 h37 h38 h39 h40 h41 h42 h43 h44 h45 h46 h47 h48 h49 h50 h51 h52 h53 h54 h55 h56 : Nat) (hneg : ((xs 1) : Int32) < 0) (hT : zT G (fun q => s.heap.size ≤ q) s.heap H locs [(h0, .inr (11, [.ref h5, .ref h6, .ref h7, .ref h8, .ref h9, .ref h10, .ref h11, .ref h12, .ref h13, .ref h14, .ref h1, .int (-1), .int (-1), .int (-1), .int (-1)])), (h1, .inl (cy 0, 3, .inl (kc 0))), (h2, .inr (12, [.int 0, .ref h3, .int 0, .int 0, .int 0, .int (-1), .int 0, .int 0, .ref h15, .ref h16, .ref h17, .ref h18, .int 0, .ref h19, .ref h20, .int 0, .ref h21, .ref h22, .ref h23, .ref h24, .ref h25, .int 0, .ref h26, .ref h27, .ref h28, .int 0, .ref h29, .ref h30, .ref h31, .int 0, .int 0, .ref h32, .ref h33, .ref h34, .int 0, .long 0, .long 0, .ref h35, .ref h36, .ref h37, .ref h38, .ref h39, .ref h40, .ref h41, .ref h42, .ref h43, .ref h44, .int 0, .int 0, .ref h45, .ref h46, .ref h47, .ref h48, .ref h49, .ref h50, .ref h51, .ref h52, .ref h53, .int 0, .int 0, .int 0, .int 0, .long 0, .ref h54, .ref h55, .ref h56, .int 0, .int 0, .long 0])), (h3, .inl (cy 0, 3, .inl (kc 0)))]) (hl : lv_has ls 8 [(0, .ref b), (1, .ref h0), (2, .ref h2), (3, .ref h4), (4, .int 0)]) : W p l e (zR 1000 600002 7302232) s m #[Value.ref b] below meth c H locs 476 284354 (lw_Z below #[Value.ref b] s) (F0 m 495 ls []) := by
  obtain ⟨hl0, hx, hb, hr, hml, hown, hts, hX, hbl, hlk, hK, hE, q1, v1, q2, v2, hS⟩ := C
  have hA : ∀ q : Nat, s.heap.size ≤ q → (fun q => s.heap.size ≤ q) q := fun _ h => h
  have hbA : ¬ (fun q => s.heap.size ≤ q) b := Nat.not_le.mpr hbl
  refine lv_aload_n (pc := 495) hx hb dL_law_495 rfl (lv_at hl 1 rfl) ?_
  refine lv_aload_n (pc := 496) hx hb dL_law_496 rfl (lv_at hl 0 rfl) ?_
  refine lv_iload (pc := 497) hx hb dL_law_497 (lv_at hl 4 rfl) ?_
  refine lv_iconst (pc := 499) (v := 1) hx hb dL_law_499 (by decide) ?_
  refine z_iadd (pc := 500) (v := 1) hx hb dL_law_500 (by decide) ?_
  refine z_sld (pc := 501) (v := (xs 1)) hx hb hX hbl hbA hT 1 rfl (by decide) rfl dL_law_501 ?_
  refine lv_aload_n (pc := 502) hx hb dL_law_502 rfl (lv_at hl 0 rfl) ?_
  refine lv_iload (pc := 503) hx hb dL_law_503 (lv_at hl 4 rfl) ?_
  refine lv_iconst (pc := 505) (v := 2) hx hb dL_law_505 (by decide) ?_
  refine z_iadd (pc := 506) (v := 2) hx hb dL_law_506 (by decide) ?_
  refine z_sld (pc := 507) (v := (xs 2)) hx hb hX hbl hbA hT 2 rfl (by decide) rfl dL_law_507 ?_
  refine lv_aload_n (pc := 508) hx hb dL_law_508 rfl (lv_at hl 3 rfl) ?_
  refine z_eHI (pc := 509) zE_ok hE hx hb hml hown hts hK hA hT lkH_RL_116 ((k836_L_told l G cy hl0 h0 h1 h4 h5 h6 h7 h8 h9 h10 h11 h12 h13 h14 (xs 1) (xs 2) hneg).e) [0, 1] [2, 3] rfl rfl rfl rfl rfl (by decide) rfl hl.1 rfl (Nat.le_of_ble_eq_true rfl) dL_law_509 ⟨Nat.le_of_ble_eq_true rfl, Nat.le_of_ble_eq_true rfl⟩ (fun _ => [(h2, .inr (12, [.int 0, .ref h3, .int 0, .int 0, .int 0, .int (-1), .int 0, .int 0, .ref h15, .ref h16, .ref h17, .ref h18, .int 0, .ref h19, .ref h20, .int 0, .ref h21, .ref h22, .ref h23, .ref h24, .ref h25, .int 0, .ref h26, .ref h27, .ref h28, .int 0, .ref h29, .ref h30, .ref h31, .int 0, .int 0, .ref h32, .ref h33, .ref h34, .int 0, .long 0, .long 0, .ref h35, .ref h36, .ref h37, .ref h38, .ref h39, .ref h40, .ref h41, .ref h42, .ref h43, .ref h44, .int 0, .int 0, .ref h45, .ref h46, .ref h47, .ref h48, .ref h49, .ref h50, .ref h51, .ref h52, .ref h53, .int 0, .int 0, .int 0, .int 0, .long 0, .ref h54, .ref h55, .ref h56, .int 0, .int 0, .long 0])), (h3, .inl (cy 0, 3, .inl (kc 0)))]) (fun _ => rfl) (fun qs1 H locs hT => ?_)
  refine lv_istore (pc := 512) (lv' := [(5, .int 1), (0, .ref b), (1, .ref h0), (2, .ref h2), (3, .ref h4), (4, .int 0)]) hx hb dL_law_512 hl (by decide) rfl (fun ls hl => ?_)
  refine lv_aload_n (pc := 514) hx hb dL_law_514 rfl (lv_at hl 3 rfl) ?_
  refine lv_aload_n (pc := 515) hx hb dL_law_515 rfl (lv_at hl 1 rfl) ?_
  refine lv_iload (pc := 516) hx hb dL_law_516 (lv_at hl 5 rfl) ?_
  refine lv_iconst (pc := 518) (v := 1) hx hb dL_law_518 (by decide) ?_
  refine z_iadd (pc := 519) (v := 1) hx hb dL_law_519 (by decide) ?_
  refine z_sld (pc := 520) (v := (xs 1)) hx hb hX hbl hbA hT 1 rfl (by decide) rfl dL_law_520 ?_
  refine lv_aload_n (pc := 521) hx hb dL_law_521 rfl (lv_at hl 1 rfl) ?_
  refine lv_iload (pc := 522) hx hb dL_law_522 (lv_at hl 5 rfl) ?_
  refine lv_iconst (pc := 524) (v := 2) hx hb dL_law_524 (by decide) ?_
  refine z_iadd (pc := 525) (v := 2) hx hb dL_law_525 (by decide) ?_
  refine z_sld (pc := 526) (v := (xs 2)) hx hb hX hbl hbA hT 2 rfl (by decide) rfl dL_law_526 ?_
  refine z_cVI (pc := 527) hx hb hml hown hts hK hA hT lkV_RL_118 (k639_X12_told l G cy h2 h3 h15 h16 h17 h18 h19 h20 h21 h22 h23 h24 h25 h26 h27 h28 h29 h30 h31 h32 h33 h34 h35 h36 h37 h38 h39 h40 h41 h42 h43 h44 h45 h46 h47 h48 h49 h50 h51 h52 h53 h54 h55 h56 (xs 1) (xs 2) hneg) [0, 1] [] rfl rfl rfl rfl rfl 0 rfl rfl (by decide) rfl hl.1 rfl (Nat.le_of_ble_eq_true rfl) dL_law_527 ⟨Nat.le_of_ble_eq_true rfl, Nat.le_of_ble_eq_true rfl⟩ (fun _ => [(h2, .inr (12, [.int 1, .ref h3, .int 0, .int 0, .int 0, .int (-1), .int 0, .int 0, .ref h15, .ref h16, .ref h17, .ref h18, .int 0, .ref h19, .ref h20, .int 0, .ref h21, .ref h22, .ref h23, .ref h24, .ref h25, .int 0, .ref h26, .ref h27, .ref h28, .int 0, .ref h29, .ref h30, .ref h31, .int 0, .int 0, .ref h32, .ref h33, .ref h34, .int 0, .long 0, .long 0, .ref h35, .ref h36, .ref h37, .ref h38, .ref h39, .ref h40, .ref h41, .ref h42, .ref h43, .ref h44, .int 0, .int 0, .ref h45, .ref h46, .ref h47, .ref h48, .ref h49, .ref h50, .ref h51, .ref h52, .ref h53, .int 0, .int 0, .int 0, .int 0, .long 0, .ref h54, .ref h55, .ref h56, .int 0, .int 0, .long 0]))]) (fun _ => rfl) (fun qs2 H locs hT => ?_)
  refine lv_istore (pc := 530) (lv' := [(6, .int 0), (5, .int 1), (0, .ref b), (1, .ref h0), (2, .ref h2), (3, .ref h4), (4, .int 0)]) hx hb dL_law_530 hl (by decide) rfl (fun ls hl => ?_)
  refine lv_aload_n (pc := 532) hx hb dL_law_532 rfl (lv_at hl 4 rfl) ?_
  refine z_cVI (pc := 533) hx hb hml hown hts hK hA hT lkV_RL_96 (k1051_X12_thrown l G cy h2 h3 h15 h16 h17 h18 h19 h20 h21 h22 h23 h24 h25 h26 h27 h28 h29 h30 h31 h32 h33 h34 h35 h36 h37 h38 h39 h40 h41 h42 h43 h44 h45 h46 h47 h48 h49 h50 h51 h52 h53 h54 h55 h56) [0] [] rfl rfl rfl rfl rfl 0 rfl rfl (by decide) rfl hl.1 rfl (Nat.le_of_ble_eq_true rfl) dL_law_533 ⟨Nat.le_of_ble_eq_true rfl, Nat.le_of_ble_eq_true rfl⟩ (fun _ => [(h2, .inr (12, [.int 1, .ref h3, .int 0, .int 0, .int 0, .int (-1), .int 0, .int 0, .ref h15, .ref h16, .ref h17, .ref h18, .int 0, .ref h19, .ref h20, .int 0, .ref h21, .ref h22, .ref h23, .ref h24, .ref h25, .int 0, .ref h26, .ref h27, .ref h28, .int 0, .ref h29, .ref h30, .ref h31, .int 0, .int 0, .ref h32, .ref h33, .ref h34, .int 0, .long 0, .long 0, .ref h35, .ref h36, .ref h37, .ref h38, .ref h39, .ref h40, .ref h41, .ref h42, .ref h43, .ref h44, .int 0, .int 0, .ref h45, .ref h46, .ref h47, .ref h48, .ref h49, .ref h50, .ref h51, .ref h52, .ref h53, .int 0, .int 0, .int 0, .int 0, .long 0, .ref h54, .ref h55, .ref h56, .int 0, .int 0, .long 0]))]) (fun _ => rfl) (fun qs3 H locs hT => ?_)
  refine lv_iload (pc := 536) hx hb dL_law_536 (lv_at hl 1 rfl) ?_
  refine zb_icmp_eq_t (pc := 538) (tgt := 543) hx hb dL_law_538 (by decide) (by decide) ?_
  refine lv_iload (pc := 543) hx hb dL_law_543 (lv_at hl 1 rfl) ?_
  refine zb_if_ne_t (pc := 545) (tgt := 560) hx hb dL_law_545 (by decide) (by decide) ?_
  refine lv_goto (pc := 560) (tgt := 1719) hx hb dL_law_560 (by decide) ?_
  exact q_end hx hb hr hlk hX hbl hT (lv_sub hl [2, 6] rfl) (Nat.le_of_ble_eq_true rfl) (Nat.le_of_ble_eq_true rfl)
set_option maxHeartbeats 4000000 in
set_option maxRecDepth 100000 in
theorem q_told_0_big {p : Program} {l : Launch} {e : Env} {s : State} {m : MethodId} {below : List Frame} {meth : Method} {c : Code} {H : Heap} {locs : List Loc} {ls : Array Slot} {G : va_G} {cy : Nat → ClassId} {b : Nat} {xs : Nat → Int32} (C : zC l G cy p s m meth c b 6 xs) (h0 h1 h2 h3 h4 h5 h6 h7 h8 h9 h10 h11 h12 h13 h14 h15 h16 h17 h18 h19 h20 h21 h22 h23 h24 h25 h26 h27 h28 h29 h30 h31 h32 h33 h34 h35 h36 h37 h38 h39 h40 h41 h42 h43 h44 h45 h46 h47 h48 h49 h50 h51 h52 h53 h54 h55 h56 : Nat) (hb1 : ¬ ((xs 1) : Int32) < 0) (hb2 : ¬ ((xs 1) : Int32) < 6) (hb3 : (5 : Int32) < (xs 1)) (hT : zT G (fun q => s.heap.size ≤ q) s.heap H locs [(h0, .inr (11, [.ref h5, .ref h6, .ref h7, .ref h8, .ref h9, .ref h10, .ref h11, .ref h12, .ref h13, .ref h14, .ref h1, .int (-1), .int (-1), .int (-1), .int (-1)])), (h1, .inl (cy 0, 3, .inl (kc 0))), (h2, .inr (12, [.int 0, .ref h3, .int 0, .int 0, .int 0, .int (-1), .int 0, .int 0, .ref h15, .ref h16, .ref h17, .ref h18, .int 0, .ref h19, .ref h20, .int 0, .ref h21, .ref h22, .ref h23, .ref h24, .ref h25, .int 0, .ref h26, .ref h27, .ref h28, .int 0, .ref h29, .ref h30, .ref h31, .int 0, .int 0, .ref h32, .ref h33, .ref h34, .int 0, .long 0, .long 0, .ref h35, .ref h36, .ref h37, .ref h38, .ref h39, .ref h40, .ref h41, .ref h42, .ref h43, .ref h44, .int 0, .int 0, .ref h45, .ref h46, .ref h47, .ref h48, .ref h49, .ref h50, .ref h51, .ref h52, .ref h53, .int 0, .int 0, .int 0, .int 0, .long 0, .ref h54, .ref h55, .ref h56, .int 0, .int 0, .long 0])), (h3, .inl (cy 0, 3, .inl (kc 0)))]) (hl : lv_has ls 8 [(0, .ref b), (1, .ref h0), (2, .ref h2), (3, .ref h4), (4, .int 0)]) : W p l e (zR 1000 600002 7302232) s m #[Value.ref b] below meth c H locs 476 284354 (lw_Z below #[Value.ref b] s) (F0 m 495 ls []) := by
  obtain ⟨hl0, hx, hb, hr, hml, hown, hts, hX, hbl, hlk, hK, hE, q1, v1, q2, v2, hS⟩ := C
  have hA : ∀ q : Nat, s.heap.size ≤ q → (fun q => s.heap.size ≤ q) q := fun _ h => h
  have hbA : ¬ (fun q => s.heap.size ≤ q) b := Nat.not_le.mpr hbl
  refine lv_aload_n (pc := 495) hx hb dL_law_495 rfl (lv_at hl 1 rfl) ?_
  refine lv_aload_n (pc := 496) hx hb dL_law_496 rfl (lv_at hl 0 rfl) ?_
  refine lv_iload (pc := 497) hx hb dL_law_497 (lv_at hl 4 rfl) ?_
  refine lv_iconst (pc := 499) (v := 1) hx hb dL_law_499 (by decide) ?_
  refine z_iadd (pc := 500) (v := 1) hx hb dL_law_500 (by decide) ?_
  refine z_sld (pc := 501) (v := (xs 1)) hx hb hX hbl hbA hT 1 rfl (by decide) rfl dL_law_501 ?_
  refine lv_aload_n (pc := 502) hx hb dL_law_502 rfl (lv_at hl 0 rfl) ?_
  refine lv_iload (pc := 503) hx hb dL_law_503 (lv_at hl 4 rfl) ?_
  refine lv_iconst (pc := 505) (v := 2) hx hb dL_law_505 (by decide) ?_
  refine z_iadd (pc := 506) (v := 2) hx hb dL_law_506 (by decide) ?_
  refine z_sld (pc := 507) (v := (xs 2)) hx hb hX hbl hbA hT 2 rfl (by decide) rfl dL_law_507 ?_
  refine lv_aload_n (pc := 508) hx hb dL_law_508 rfl (lv_at hl 3 rfl) ?_
  refine z_eHI (pc := 509) zE_ok hE hx hb hml hown hts hK hA hT lkH_RL_116 ((k837_L_told l G cy hl0 h0 h1 h4 h5 h6 h7 h8 h9 h10 h11 h12 h13 h14 (xs 1) (xs 2) hb1 hb2).e) [0, 1] [2, 3] rfl rfl rfl rfl rfl (by decide) rfl hl.1 rfl (Nat.le_of_ble_eq_true rfl) dL_law_509 ⟨Nat.le_of_ble_eq_true rfl, Nat.le_of_ble_eq_true rfl⟩ (fun _ => [(h2, .inr (12, [.int 0, .ref h3, .int 0, .int 0, .int 0, .int (-1), .int 0, .int 0, .ref h15, .ref h16, .ref h17, .ref h18, .int 0, .ref h19, .ref h20, .int 0, .ref h21, .ref h22, .ref h23, .ref h24, .ref h25, .int 0, .ref h26, .ref h27, .ref h28, .int 0, .ref h29, .ref h30, .ref h31, .int 0, .int 0, .ref h32, .ref h33, .ref h34, .int 0, .long 0, .long 0, .ref h35, .ref h36, .ref h37, .ref h38, .ref h39, .ref h40, .ref h41, .ref h42, .ref h43, .ref h44, .int 0, .int 0, .ref h45, .ref h46, .ref h47, .ref h48, .ref h49, .ref h50, .ref h51, .ref h52, .ref h53, .int 0, .int 0, .int 0, .int 0, .long 0, .ref h54, .ref h55, .ref h56, .int 0, .int 0, .long 0])), (h3, .inl (cy 0, 3, .inl (kc 0)))]) (fun _ => rfl) (fun qs1 H locs hT => ?_)
  refine lv_istore (pc := 512) (lv' := [(5, .int 1), (0, .ref b), (1, .ref h0), (2, .ref h2), (3, .ref h4), (4, .int 0)]) hx hb dL_law_512 hl (by decide) rfl (fun ls hl => ?_)
  refine lv_aload_n (pc := 514) hx hb dL_law_514 rfl (lv_at hl 3 rfl) ?_
  refine lv_aload_n (pc := 515) hx hb dL_law_515 rfl (lv_at hl 1 rfl) ?_
  refine lv_iload (pc := 516) hx hb dL_law_516 (lv_at hl 5 rfl) ?_
  refine lv_iconst (pc := 518) (v := 1) hx hb dL_law_518 (by decide) ?_
  refine z_iadd (pc := 519) (v := 1) hx hb dL_law_519 (by decide) ?_
  refine z_sld (pc := 520) (v := (xs 1)) hx hb hX hbl hbA hT 1 rfl (by decide) rfl dL_law_520 ?_
  refine lv_aload_n (pc := 521) hx hb dL_law_521 rfl (lv_at hl 1 rfl) ?_
  refine lv_iload (pc := 522) hx hb dL_law_522 (lv_at hl 5 rfl) ?_
  refine lv_iconst (pc := 524) (v := 2) hx hb dL_law_524 (by decide) ?_
  refine z_iadd (pc := 525) (v := 2) hx hb dL_law_525 (by decide) ?_
  refine z_sld (pc := 526) (v := (xs 2)) hx hb hX hbl hbA hT 2 rfl (by decide) rfl dL_law_526 ?_
  refine z_cVI (pc := 527) hx hb hml hown hts hK hA hT lkV_RL_118 (k640_X12_told l G cy h2 h3 h15 h16 h17 h18 h19 h20 h21 h22 h23 h24 h25 h26 h27 h28 h29 h30 h31 h32 h33 h34 h35 h36 h37 h38 h39 h40 h41 h42 h43 h44 h45 h46 h47 h48 h49 h50 h51 h52 h53 h54 h55 h56 (xs 1) (xs 2) hb1 hb3) [0, 1] [] rfl rfl rfl rfl rfl 0 rfl rfl (by decide) rfl hl.1 rfl (Nat.le_of_ble_eq_true rfl) dL_law_527 ⟨Nat.le_of_ble_eq_true rfl, Nat.le_of_ble_eq_true rfl⟩ (fun _ => [(h2, .inr (12, [.int 1, .ref h3, .int 0, .int 0, .int 0, .int (-1), .int 0, .int 0, .ref h15, .ref h16, .ref h17, .ref h18, .int 0, .ref h19, .ref h20, .int 0, .ref h21, .ref h22, .ref h23, .ref h24, .ref h25, .int 0, .ref h26, .ref h27, .ref h28, .int 0, .ref h29, .ref h30, .ref h31, .int 0, .int 0, .ref h32, .ref h33, .ref h34, .int 0, .long 0, .long 0, .ref h35, .ref h36, .ref h37, .ref h38, .ref h39, .ref h40, .ref h41, .ref h42, .ref h43, .ref h44, .int 0, .int 0, .ref h45, .ref h46, .ref h47, .ref h48, .ref h49, .ref h50, .ref h51, .ref h52, .ref h53, .int 0, .int 0, .int 0, .int 0, .long 0, .ref h54, .ref h55, .ref h56, .int 0, .int 0, .long 0]))]) (fun _ => rfl) (fun qs2 H locs hT => ?_)
  refine lv_istore (pc := 530) (lv' := [(6, .int 0), (5, .int 1), (0, .ref b), (1, .ref h0), (2, .ref h2), (3, .ref h4), (4, .int 0)]) hx hb dL_law_530 hl (by decide) rfl (fun ls hl => ?_)
  refine lv_aload_n (pc := 532) hx hb dL_law_532 rfl (lv_at hl 4 rfl) ?_
  refine z_cVI (pc := 533) hx hb hml hown hts hK hA hT lkV_RL_96 (k1051_X12_thrown l G cy h2 h3 h15 h16 h17 h18 h19 h20 h21 h22 h23 h24 h25 h26 h27 h28 h29 h30 h31 h32 h33 h34 h35 h36 h37 h38 h39 h40 h41 h42 h43 h44 h45 h46 h47 h48 h49 h50 h51 h52 h53 h54 h55 h56) [0] [] rfl rfl rfl rfl rfl 0 rfl rfl (by decide) rfl hl.1 rfl (Nat.le_of_ble_eq_true rfl) dL_law_533 ⟨Nat.le_of_ble_eq_true rfl, Nat.le_of_ble_eq_true rfl⟩ (fun _ => [(h2, .inr (12, [.int 1, .ref h3, .int 0, .int 0, .int 0, .int (-1), .int 0, .int 0, .ref h15, .ref h16, .ref h17, .ref h18, .int 0, .ref h19, .ref h20, .int 0, .ref h21, .ref h22, .ref h23, .ref h24, .ref h25, .int 0, .ref h26, .ref h27, .ref h28, .int 0, .ref h29, .ref h30, .ref h31, .int 0, .int 0, .ref h32, .ref h33, .ref h34, .int 0, .long 0, .long 0, .ref h35, .ref h36, .ref h37, .ref h38, .ref h39, .ref h40, .ref h41, .ref h42, .ref h43, .ref h44, .int 0, .int 0, .ref h45, .ref h46, .ref h47, .ref h48, .ref h49, .ref h50, .ref h51, .ref h52, .ref h53, .int 0, .int 0, .int 0, .int 0, .long 0, .ref h54, .ref h55, .ref h56, .int 0, .int 0, .long 0]))]) (fun _ => rfl) (fun qs3 H locs hT => ?_)
  refine lv_iload (pc := 536) hx hb dL_law_536 (lv_at hl 1 rfl) ?_
  refine zb_icmp_eq_t (pc := 538) (tgt := 543) hx hb dL_law_538 (by decide) (by decide) ?_
  refine lv_iload (pc := 543) hx hb dL_law_543 (lv_at hl 1 rfl) ?_
  refine zb_if_ne_t (pc := 545) (tgt := 560) hx hb dL_law_545 (by decide) (by decide) ?_
  refine lv_goto (pc := 560) (tgt := 1719) hx hb dL_law_560 (by decide) ?_
  exact q_end hx hb hr hlk hX hbl hT (lv_sub hl [2, 6] rfl) (Nat.le_of_ble_eq_true rfl) (Nat.le_of_ble_eq_true rfl)
set_option maxHeartbeats 4000000 in
set_option maxRecDepth 100000 in
theorem q_told_1_neg {p : Program} {l : Launch} {e : Env} {s : State} {m : MethodId} {below : List Frame} {meth : Method} {c : Code} {H : Heap} {locs : List Loc} {ls : Array Slot} {G : va_G} {cy : Nat → ClassId} {b : Nat} {xs : Nat → Int32} (C : zC l G cy p s m meth c b 6 xs) (h0 h1 h2 h3 h4 h5 h6 h7 h8 h9 h10 h11 h12 h13 h14 h15 h16 h17 h18 h19 h20 h21 h22 h23 h24 h25 h26 h27 h28 h29 h30 h31 h32 h33 h34 h35 h36 h37 h38 h39 h40 h41 h42 h43 h44 h45 h46 h47 h48 h49 h50 h51 h52 h53 h54 h55 h56 : Nat) (j : Nat) (hloj : 0 ≤ j) (hhij : j < 6) (hs1 : xs 1 = (nI j)) (hneg : ((xs 2) : Int32) < 0) (hT : zT G (fun q => s.heap.size ≤ q) s.heap H locs [(h0, .inr (11, [.ref h5, .ref h6, .ref h7, .ref h8, .ref h9, .ref h10, .ref h11, .ref h12, .ref h13, .ref h14, .ref h1, .int (-1), .int (-1), .int (-1), .int (-1)])), (h1, .inl (cy 0, 3, .inl (kc 0))), (h2, .inr (12, [.int 0, .ref h3, .int 0, .int 0, .int 0, .int (-1), .int 0, .int 0, .ref h15, .ref h16, .ref h17, .ref h18, .int 0, .ref h19, .ref h20, .int 0, .ref h21, .ref h22, .ref h23, .ref h24, .ref h25, .int 0, .ref h26, .ref h27, .ref h28, .int 0, .ref h29, .ref h30, .ref h31, .int 0, .int 0, .ref h32, .ref h33, .ref h34, .int 0, .long 0, .long 0, .ref h35, .ref h36, .ref h37, .ref h38, .ref h39, .ref h40, .ref h41, .ref h42, .ref h43, .ref h44, .int 0, .int 0, .ref h45, .ref h46, .ref h47, .ref h48, .ref h49, .ref h50, .ref h51, .ref h52, .ref h53, .int 0, .int 0, .int 0, .int 0, .long 0, .ref h54, .ref h55, .ref h56, .int 0, .int 0, .long 0])), (h3, .inl (cy 0, 3, .inl (kc 0)))]) (hl : lv_has ls 8 [(0, .ref b), (1, .ref h0), (2, .ref h2), (3, .ref h4), (4, .int 0)]) : W p l e (zR 1000 600002 7302232) s m #[Value.ref b] below meth c H locs 476 284354 (lw_Z below #[Value.ref b] s) (F0 m 495 ls []) := by
  obtain ⟨hl0, hx, hb, hr, hml, hown, hts, hX, hbl, hlk, hK, hE, q1, v1, q2, v2, hS⟩ := C
  have hA : ∀ q : Nat, s.heap.size ≤ q → (fun q => s.heap.size ≤ q) q := fun _ h => h
  have hbA : ¬ (fun q => s.heap.size ≤ q) b := Nat.not_le.mpr hbl
  refine lv_aload_n (pc := 495) hx hb dL_law_495 rfl (lv_at hl 1 rfl) ?_
  refine lv_aload_n (pc := 496) hx hb dL_law_496 rfl (lv_at hl 0 rfl) ?_
  refine lv_iload (pc := 497) hx hb dL_law_497 (lv_at hl 4 rfl) ?_
  refine lv_iconst (pc := 499) (v := 1) hx hb dL_law_499 (by decide) ?_
  refine z_iadd (pc := 500) (v := 1) hx hb dL_law_500 (by decide) ?_
  refine z_sld (pc := 501) (v := (nI j)) hx hb hX hbl hbA hT 1 rfl (by decide) hs1 dL_law_501 ?_
  refine lv_aload_n (pc := 502) hx hb dL_law_502 rfl (lv_at hl 0 rfl) ?_
  refine lv_iload (pc := 503) hx hb dL_law_503 (lv_at hl 4 rfl) ?_
  refine lv_iconst (pc := 505) (v := 2) hx hb dL_law_505 (by decide) ?_
  refine z_iadd (pc := 506) (v := 2) hx hb dL_law_506 (by decide) ?_
  refine z_sld (pc := 507) (v := (xs 2)) hx hb hX hbl hbA hT 2 rfl (by decide) rfl dL_law_507 ?_
  refine lv_aload_n (pc := 508) hx hb dL_law_508 rfl (lv_at hl 3 rfl) ?_
  refine z_eHI (pc := 509) zE_ok hE hx hb hml hown hts hK hA hT lkH_RL_116 ((k838_L_told l G cy hl0 h0 h1 h4 h5 h6 h7 h8 h9 h10 h11 h12 h13 h14 (xs 2) j (by omega) (by omega) hneg).e) [0, 1] [2, 3] rfl rfl rfl rfl rfl (by decide) rfl hl.1 rfl (Nat.le_of_ble_eq_true rfl) dL_law_509 ⟨Nat.le_of_ble_eq_true rfl, Nat.le_of_ble_eq_true rfl⟩ (fun _ => [(h2, .inr (12, [.int 0, .ref h3, .int 0, .int 0, .int 0, .int (-1), .int 0, .int 0, .ref h15, .ref h16, .ref h17, .ref h18, .int 0, .ref h19, .ref h20, .int 0, .ref h21, .ref h22, .ref h23, .ref h24, .ref h25, .int 0, .ref h26, .ref h27, .ref h28, .int 0, .ref h29, .ref h30, .ref h31, .int 0, .int 0, .ref h32, .ref h33, .ref h34, .int 0, .long 0, .long 0, .ref h35, .ref h36, .ref h37, .ref h38, .ref h39, .ref h40, .ref h41, .ref h42, .ref h43, .ref h44, .int 0, .int 0, .ref h45, .ref h46, .ref h47, .ref h48, .ref h49, .ref h50, .ref h51, .ref h52, .ref h53, .int 0, .int 0, .int 0, .int 0, .long 0, .ref h54, .ref h55, .ref h56, .int 0, .int 0, .long 0])), (h3, .inl (cy 0, 3, .inl (kc 0)))]) (fun _ => rfl) (fun qs1 H locs hT => ?_)
  refine lv_istore (pc := 512) (lv' := [(5, .int 2), (0, .ref b), (1, .ref h0), (2, .ref h2), (3, .ref h4), (4, .int 0)]) hx hb dL_law_512 hl (by decide) rfl (fun ls hl => ?_)
  refine lv_aload_n (pc := 514) hx hb dL_law_514 rfl (lv_at hl 3 rfl) ?_
  refine lv_aload_n (pc := 515) hx hb dL_law_515 rfl (lv_at hl 1 rfl) ?_
  refine lv_iload (pc := 516) hx hb dL_law_516 (lv_at hl 5 rfl) ?_
  refine lv_iconst (pc := 518) (v := 1) hx hb dL_law_518 (by decide) ?_
  refine z_iadd (pc := 519) (v := 1) hx hb dL_law_519 (by decide) ?_
  refine z_sld (pc := 520) (v := (nI j)) hx hb hX hbl hbA hT 1 rfl (by decide) hs1 dL_law_520 ?_
  refine lv_aload_n (pc := 521) hx hb dL_law_521 rfl (lv_at hl 1 rfl) ?_
  refine lv_iload (pc := 522) hx hb dL_law_522 (lv_at hl 5 rfl) ?_
  refine lv_iconst (pc := 524) (v := 2) hx hb dL_law_524 (by decide) ?_
  refine z_iadd (pc := 525) (v := 2) hx hb dL_law_525 (by decide) ?_
  refine z_sld (pc := 526) (v := (xs 2)) hx hb hX hbl hbA hT 2 rfl (by decide) rfl dL_law_526 ?_
  refine z_cVI (pc := 527) hx hb hml hown hts hK hA hT lkV_RL_118 (k642_X12_told l G cy h2 h3 h15 h16 h17 h18 h19 h20 h21 h22 h23 h24 h25 h26 h27 h28 h29 h30 h31 h32 h33 h34 h35 h36 h37 h38 h39 h40 h41 h42 h43 h44 h45 h46 h47 h48 h49 h50 h51 h52 h53 h54 h55 h56 (xs 2) j (by omega) (by omega) hneg) [0, 1] [] rfl rfl rfl rfl rfl 0 rfl rfl (by decide) rfl hl.1 rfl (Nat.le_of_ble_eq_true rfl) dL_law_527 ⟨Nat.le_of_ble_eq_true rfl, Nat.le_of_ble_eq_true rfl⟩ (fun _ => [(h2, .inr (12, [.int 2, .ref h3, .int 0, .int 0, .int 0, .int (-1), .int 0, .int 0, .ref h15, .ref h16, .ref h17, .ref h18, .int 0, .ref h19, .ref h20, .int 0, .ref h21, .ref h22, .ref h23, .ref h24, .ref h25, .int 0, .ref h26, .ref h27, .ref h28, .int 0, .ref h29, .ref h30, .ref h31, .int 0, .int 0, .ref h32, .ref h33, .ref h34, .int 0, .long 0, .long 0, .ref h35, .ref h36, .ref h37, .ref h38, .ref h39, .ref h40, .ref h41, .ref h42, .ref h43, .ref h44, .int 0, .int 0, .ref h45, .ref h46, .ref h47, .ref h48, .ref h49, .ref h50, .ref h51, .ref h52, .ref h53, .int 0, .int 0, .int 0, .int 0, .long 0, .ref h54, .ref h55, .ref h56, .int 0, .int 0, .long 0]))]) (fun _ => rfl) (fun qs2 H locs hT => ?_)
  refine lv_istore (pc := 530) (lv' := [(6, .int 0), (5, .int 2), (0, .ref b), (1, .ref h0), (2, .ref h2), (3, .ref h4), (4, .int 0)]) hx hb dL_law_530 hl (by decide) rfl (fun ls hl => ?_)
  refine lv_aload_n (pc := 532) hx hb dL_law_532 rfl (lv_at hl 4 rfl) ?_
  refine z_cVI (pc := 533) hx hb hml hown hts hK hA hT lkV_RL_96 (k1052_X12_thrown l G cy h2 h3 h15 h16 h17 h18 h19 h20 h21 h22 h23 h24 h25 h26 h27 h28 h29 h30 h31 h32 h33 h34 h35 h36 h37 h38 h39 h40 h41 h42 h43 h44 h45 h46 h47 h48 h49 h50 h51 h52 h53 h54 h55 h56) [0] [] rfl rfl rfl rfl rfl 0 rfl rfl (by decide) rfl hl.1 rfl (Nat.le_of_ble_eq_true rfl) dL_law_533 ⟨Nat.le_of_ble_eq_true rfl, Nat.le_of_ble_eq_true rfl⟩ (fun _ => [(h2, .inr (12, [.int 2, .ref h3, .int 0, .int 0, .int 0, .int (-1), .int 0, .int 0, .ref h15, .ref h16, .ref h17, .ref h18, .int 0, .ref h19, .ref h20, .int 0, .ref h21, .ref h22, .ref h23, .ref h24, .ref h25, .int 0, .ref h26, .ref h27, .ref h28, .int 0, .ref h29, .ref h30, .ref h31, .int 0, .int 0, .ref h32, .ref h33, .ref h34, .int 0, .long 0, .long 0, .ref h35, .ref h36, .ref h37, .ref h38, .ref h39, .ref h40, .ref h41, .ref h42, .ref h43, .ref h44, .int 0, .int 0, .ref h45, .ref h46, .ref h47, .ref h48, .ref h49, .ref h50, .ref h51, .ref h52, .ref h53, .int 0, .int 0, .int 0, .int 0, .long 0, .ref h54, .ref h55, .ref h56, .int 0, .int 0, .long 0]))]) (fun _ => rfl) (fun qs3 H locs hT => ?_)
  refine lv_iload (pc := 536) hx hb dL_law_536 (lv_at hl 1 rfl) ?_
  refine zb_icmp_eq_t (pc := 538) (tgt := 543) hx hb dL_law_538 (by decide) (by decide) ?_
  refine lv_iload (pc := 543) hx hb dL_law_543 (lv_at hl 1 rfl) ?_
  refine zb_if_ne_t (pc := 545) (tgt := 560) hx hb dL_law_545 (by decide) (by decide) ?_
  refine lv_goto (pc := 560) (tgt := 1719) hx hb dL_law_560 (by decide) ?_
  exact q_end hx hb hr hlk hX hbl hT (lv_sub hl [2, 6] rfl) (Nat.le_of_ble_eq_true rfl) (Nat.le_of_ble_eq_true rfl)
set_option maxHeartbeats 4000000 in
set_option maxRecDepth 100000 in
theorem q_told_1_big {p : Program} {l : Launch} {e : Env} {s : State} {m : MethodId} {below : List Frame} {meth : Method} {c : Code} {H : Heap} {locs : List Loc} {ls : Array Slot} {G : va_G} {cy : Nat → ClassId} {b : Nat} {xs : Nat → Int32} (C : zC l G cy p s m meth c b 6 xs) (h0 h1 h2 h3 h4 h5 h6 h7 h8 h9 h10 h11 h12 h13 h14 h15 h16 h17 h18 h19 h20 h21 h22 h23 h24 h25 h26 h27 h28 h29 h30 h31 h32 h33 h34 h35 h36 h37 h38 h39 h40 h41 h42 h43 h44 h45 h46 h47 h48 h49 h50 h51 h52 h53 h54 h55 h56 : Nat) (j : Nat) (hloj : 0 ≤ j) (hhij : j < 6) (hs1 : xs 1 = (nI j)) (hb1 : ¬ ((xs 2) : Int32) < 0) (hb2 : (10 : Int32) < (xs 2)) (hT : zT G (fun q => s.heap.size ≤ q) s.heap H locs [(h0, .inr (11, [.ref h5, .ref h6, .ref h7, .ref h8, .ref h9, .ref h10, .ref h11, .ref h12, .ref h13, .ref h14, .ref h1, .int (-1), .int (-1), .int (-1), .int (-1)])), (h1, .inl (cy 0, 3, .inl (kc 0))), (h2, .inr (12, [.int 0, .ref h3, .int 0, .int 0, .int 0, .int (-1), .int 0, .int 0, .ref h15, .ref h16, .ref h17, .ref h18, .int 0, .ref h19, .ref h20, .int 0, .ref h21, .ref h22, .ref h23, .ref h24, .ref h25, .int 0, .ref h26, .ref h27, .ref h28, .int 0, .ref h29, .ref h30, .ref h31, .int 0, .int 0, .ref h32, .ref h33, .ref h34, .int 0, .long 0, .long 0, .ref h35, .ref h36, .ref h37, .ref h38, .ref h39, .ref h40, .ref h41, .ref h42, .ref h43, .ref h44, .int 0, .int 0, .ref h45, .ref h46, .ref h47, .ref h48, .ref h49, .ref h50, .ref h51, .ref h52, .ref h53, .int 0, .int 0, .int 0, .int 0, .long 0, .ref h54, .ref h55, .ref h56, .int 0, .int 0, .long 0])), (h3, .inl (cy 0, 3, .inl (kc 0)))]) (hl : lv_has ls 8 [(0, .ref b), (1, .ref h0), (2, .ref h2), (3, .ref h4), (4, .int 0)]) : W p l e (zR 1000 600002 7302232) s m #[Value.ref b] below meth c H locs 476 284354 (lw_Z below #[Value.ref b] s) (F0 m 495 ls []) := by
  obtain ⟨hl0, hx, hb, hr, hml, hown, hts, hX, hbl, hlk, hK, hE, q1, v1, q2, v2, hS⟩ := C
  have hA : ∀ q : Nat, s.heap.size ≤ q → (fun q => s.heap.size ≤ q) q := fun _ h => h
  have hbA : ¬ (fun q => s.heap.size ≤ q) b := Nat.not_le.mpr hbl
  refine lv_aload_n (pc := 495) hx hb dL_law_495 rfl (lv_at hl 1 rfl) ?_
  refine lv_aload_n (pc := 496) hx hb dL_law_496 rfl (lv_at hl 0 rfl) ?_
  refine lv_iload (pc := 497) hx hb dL_law_497 (lv_at hl 4 rfl) ?_
  refine lv_iconst (pc := 499) (v := 1) hx hb dL_law_499 (by decide) ?_
  refine z_iadd (pc := 500) (v := 1) hx hb dL_law_500 (by decide) ?_
  refine z_sld (pc := 501) (v := (nI j)) hx hb hX hbl hbA hT 1 rfl (by decide) hs1 dL_law_501 ?_
  refine lv_aload_n (pc := 502) hx hb dL_law_502 rfl (lv_at hl 0 rfl) ?_
  refine lv_iload (pc := 503) hx hb dL_law_503 (lv_at hl 4 rfl) ?_
  refine lv_iconst (pc := 505) (v := 2) hx hb dL_law_505 (by decide) ?_
  refine z_iadd (pc := 506) (v := 2) hx hb dL_law_506 (by decide) ?_
  refine z_sld (pc := 507) (v := (xs 2)) hx hb hX hbl hbA hT 2 rfl (by decide) rfl dL_law_507 ?_
  refine lv_aload_n (pc := 508) hx hb dL_law_508 rfl (lv_at hl 3 rfl) ?_
  refine z_eHI (pc := 509) zE_ok hE hx hb hml hown hts hK hA hT lkH_RL_116 ((k839_L_told l G cy hl0 h0 h1 h4 h5 h6 h7 h8 h9 h10 h11 h12 h13 h14 (xs 2) j (by omega) (by omega) hb1 hb2).e) [0, 1] [2, 3] rfl rfl rfl rfl rfl (by decide) rfl hl.1 rfl (Nat.le_of_ble_eq_true rfl) dL_law_509 ⟨Nat.le_of_ble_eq_true rfl, Nat.le_of_ble_eq_true rfl⟩ (fun _ => [(h2, .inr (12, [.int 0, .ref h3, .int 0, .int 0, .int 0, .int (-1), .int 0, .int 0, .ref h15, .ref h16, .ref h17, .ref h18, .int 0, .ref h19, .ref h20, .int 0, .ref h21, .ref h22, .ref h23, .ref h24, .ref h25, .int 0, .ref h26, .ref h27, .ref h28, .int 0, .ref h29, .ref h30, .ref h31, .int 0, .int 0, .ref h32, .ref h33, .ref h34, .int 0, .long 0, .long 0, .ref h35, .ref h36, .ref h37, .ref h38, .ref h39, .ref h40, .ref h41, .ref h42, .ref h43, .ref h44, .int 0, .int 0, .ref h45, .ref h46, .ref h47, .ref h48, .ref h49, .ref h50, .ref h51, .ref h52, .ref h53, .int 0, .int 0, .int 0, .int 0, .long 0, .ref h54, .ref h55, .ref h56, .int 0, .int 0, .long 0])), (h3, .inl (cy 0, 3, .inl (kc 0)))]) (fun _ => rfl) (fun qs1 H locs hT => ?_)
  refine lv_istore (pc := 512) (lv' := [(5, .int 2), (0, .ref b), (1, .ref h0), (2, .ref h2), (3, .ref h4), (4, .int 0)]) hx hb dL_law_512 hl (by decide) rfl (fun ls hl => ?_)
  refine lv_aload_n (pc := 514) hx hb dL_law_514 rfl (lv_at hl 3 rfl) ?_
  refine lv_aload_n (pc := 515) hx hb dL_law_515 rfl (lv_at hl 1 rfl) ?_
  refine lv_iload (pc := 516) hx hb dL_law_516 (lv_at hl 5 rfl) ?_
  refine lv_iconst (pc := 518) (v := 1) hx hb dL_law_518 (by decide) ?_
  refine z_iadd (pc := 519) (v := 1) hx hb dL_law_519 (by decide) ?_
  refine z_sld (pc := 520) (v := (nI j)) hx hb hX hbl hbA hT 1 rfl (by decide) hs1 dL_law_520 ?_
  refine lv_aload_n (pc := 521) hx hb dL_law_521 rfl (lv_at hl 1 rfl) ?_
  refine lv_iload (pc := 522) hx hb dL_law_522 (lv_at hl 5 rfl) ?_
  refine lv_iconst (pc := 524) (v := 2) hx hb dL_law_524 (by decide) ?_
  refine z_iadd (pc := 525) (v := 2) hx hb dL_law_525 (by decide) ?_
  refine z_sld (pc := 526) (v := (xs 2)) hx hb hX hbl hbA hT 2 rfl (by decide) rfl dL_law_526 ?_
  refine z_cVI (pc := 527) hx hb hml hown hts hK hA hT lkV_RL_118 (k644_X12_told l G cy h2 h3 h15 h16 h17 h18 h19 h20 h21 h22 h23 h24 h25 h26 h27 h28 h29 h30 h31 h32 h33 h34 h35 h36 h37 h38 h39 h40 h41 h42 h43 h44 h45 h46 h47 h48 h49 h50 h51 h52 h53 h54 h55 h56 (xs 2) j (by omega) (by omega) hb1 hb2) [0, 1] [] rfl rfl rfl rfl rfl 0 rfl rfl (by decide) rfl hl.1 rfl (Nat.le_of_ble_eq_true rfl) dL_law_527 ⟨Nat.le_of_ble_eq_true rfl, Nat.le_of_ble_eq_true rfl⟩ (fun _ => [(h2, .inr (12, [.int 2, .ref h3, .int 0, .int 0, .int 0, .int (-1), .int 0, .int 0, .ref h15, .ref h16, .ref h17, .ref h18, .int 0, .ref h19, .ref h20, .int 0, .ref h21, .ref h22, .ref h23, .ref h24, .ref h25, .int 0, .ref h26, .ref h27, .ref h28, .int 0, .ref h29, .ref h30, .ref h31, .int 0, .int 0, .ref h32, .ref h33, .ref h34, .int 0, .long 0, .long 0, .ref h35, .ref h36, .ref h37, .ref h38, .ref h39, .ref h40, .ref h41, .ref h42, .ref h43, .ref h44, .int 0, .int 0, .ref h45, .ref h46, .ref h47, .ref h48, .ref h49, .ref h50, .ref h51, .ref h52, .ref h53, .int 0, .int 0, .int 0, .int 0, .long 0, .ref h54, .ref h55, .ref h56, .int 0, .int 0, .long 0]))]) (fun _ => rfl) (fun qs2 H locs hT => ?_)
  refine lv_istore (pc := 530) (lv' := [(6, .int 0), (5, .int 2), (0, .ref b), (1, .ref h0), (2, .ref h2), (3, .ref h4), (4, .int 0)]) hx hb dL_law_530 hl (by decide) rfl (fun ls hl => ?_)
  refine lv_aload_n (pc := 532) hx hb dL_law_532 rfl (lv_at hl 4 rfl) ?_
  refine z_cVI (pc := 533) hx hb hml hown hts hK hA hT lkV_RL_96 (k1052_X12_thrown l G cy h2 h3 h15 h16 h17 h18 h19 h20 h21 h22 h23 h24 h25 h26 h27 h28 h29 h30 h31 h32 h33 h34 h35 h36 h37 h38 h39 h40 h41 h42 h43 h44 h45 h46 h47 h48 h49 h50 h51 h52 h53 h54 h55 h56) [0] [] rfl rfl rfl rfl rfl 0 rfl rfl (by decide) rfl hl.1 rfl (Nat.le_of_ble_eq_true rfl) dL_law_533 ⟨Nat.le_of_ble_eq_true rfl, Nat.le_of_ble_eq_true rfl⟩ (fun _ => [(h2, .inr (12, [.int 2, .ref h3, .int 0, .int 0, .int 0, .int (-1), .int 0, .int 0, .ref h15, .ref h16, .ref h17, .ref h18, .int 0, .ref h19, .ref h20, .int 0, .ref h21, .ref h22, .ref h23, .ref h24, .ref h25, .int 0, .ref h26, .ref h27, .ref h28, .int 0, .ref h29, .ref h30, .ref h31, .int 0, .int 0, .ref h32, .ref h33, .ref h34, .int 0, .long 0, .long 0, .ref h35, .ref h36, .ref h37, .ref h38, .ref h39, .ref h40, .ref h41, .ref h42, .ref h43, .ref h44, .int 0, .int 0, .ref h45, .ref h46, .ref h47, .ref h48, .ref h49, .ref h50, .ref h51, .ref h52, .ref h53, .int 0, .int 0, .int 0, .int 0, .long 0, .ref h54, .ref h55, .ref h56, .int 0, .int 0, .long 0]))]) (fun _ => rfl) (fun qs3 H locs hT => ?_)
  refine lv_iload (pc := 536) hx hb dL_law_536 (lv_at hl 1 rfl) ?_
  refine zb_icmp_eq_t (pc := 538) (tgt := 543) hx hb dL_law_538 (by decide) (by decide) ?_
  refine lv_iload (pc := 543) hx hb dL_law_543 (lv_at hl 1 rfl) ?_
  refine zb_if_ne_t (pc := 545) (tgt := 560) hx hb dL_law_545 (by decide) (by decide) ?_
  refine lv_goto (pc := 560) (tgt := 1719) hx hb dL_law_560 (by decide) ?_
  exact q_end hx hb hr hlk hX hbl hT (lv_sub hl [2, 6] rfl) (Nat.le_of_ble_eq_true rfl) (Nat.le_of_ble_eq_true rfl)
set_option maxHeartbeats 4000000 in
set_option maxRecDepth 100000 in
theorem q_arc_0_neg {p : Program} {l : Launch} {e : Env} {s : State} {m : MethodId} {below : List Frame} {meth : Method} {c : Code} {H : Heap} {locs : List Loc} {ls : Array Slot} {G : va_G} {cy : Nat → ClassId} {b : Nat} {xs : Nat → Int32} (C : zC l G cy p s m meth c b 6 xs) (h0 h1 h2 h3 h4 h5 h6 h7 h8 h9 h10 h11 h12 h13 h14 h15 h16 h17 h18 h19 h20 h21 h22 h23 h24 h25 h26 h27 h28 h29 h30 h31 h32 h33 h34 h35 h36 h37 h38 h39 h40 h41 h42 h43 h44 h45 h46 h47 h48 h49 h50 h51 h52 h53 h54 h55 h56 : Nat) (hneg : ((xs 1) : Int32) < 0) (hT : zT G (fun q => s.heap.size ≤ q) s.heap H locs [(h0, .inr (11, [.ref h5, .ref h6, .ref h7, .ref h8, .ref h9, .ref h10, .ref h11, .ref h12, .ref h13, .ref h14, .ref h1, .int (-1), .int (-1), .int (-1), .int (-1)])), (h1, .inl (cy 0, 3, .inl (kc 0))), (h2, .inr (12, [.int 0, .ref h3, .int 0, .int 0, .int 0, .int (-1), .int 0, .int 0, .ref h15, .ref h16, .ref h17, .ref h18, .int 0, .ref h19, .ref h20, .int 0, .ref h21, .ref h22, .ref h23, .ref h24, .ref h25, .int 0, .ref h26, .ref h27, .ref h28, .int 0, .ref h29, .ref h30, .ref h31, .int 0, .int 0, .ref h32, .ref h33, .ref h34, .int 0, .long 0, .long 0, .ref h35, .ref h36, .ref h37, .ref h38, .ref h39, .ref h40, .ref h41, .ref h42, .ref h43, .ref h44, .int 0, .int 0, .ref h45, .ref h46, .ref h47, .ref h48, .ref h49, .ref h50, .ref h51, .ref h52, .ref h53, .int 0, .int 0, .int 0, .int 0, .long 0, .ref h54, .ref h55, .ref h56, .int 0, .int 0, .long 0])), (h3, .inl (cy 0, 3, .inl (kc 0)))]) (hl : lv_has ls 8 [(0, .ref b), (1, .ref h0), (2, .ref h2), (3, .ref h4), (4, .int 0)]) : W p l e (zR 1000 600002 7302232) s m #[Value.ref b] below meth c H locs 476 284354 (lw_Z below #[Value.ref b] s) (F0 m 563 ls []) := by
  obtain ⟨hl0, hx, hb, hr, hml, hown, hts, hX, hbl, hlk, hK, hE, q1, v1, q2, v2, hS⟩ := C
  have hA : ∀ q : Nat, s.heap.size ≤ q → (fun q => s.heap.size ≤ q) q := fun _ h => h
  have hbA : ¬ (fun q => s.heap.size ≤ q) b := Nat.not_le.mpr hbl
  refine lv_aload_n (pc := 563) hx hb dL_law_563 rfl (lv_at hl 1 rfl) ?_
  refine lv_aload_n (pc := 564) hx hb dL_law_564 rfl (lv_at hl 0 rfl) ?_
  refine lv_iload (pc := 565) hx hb dL_law_565 (lv_at hl 4 rfl) ?_
  refine lv_iconst (pc := 567) (v := 1) hx hb dL_law_567 (by decide) ?_
  refine z_iadd (pc := 568) (v := 1) hx hb dL_law_568 (by decide) ?_
  refine z_sld (pc := 569) (v := (xs 1)) hx hb hX hbl hbA hT 1 rfl (by decide) rfl dL_law_569 ?_
  refine lv_aload_n (pc := 570) hx hb dL_law_570 rfl (lv_at hl 0 rfl) ?_
  refine lv_iload (pc := 571) hx hb dL_law_571 (lv_at hl 4 rfl) ?_
  refine lv_iconst (pc := 573) (v := 2) hx hb dL_law_573 (by decide) ?_
  refine z_iadd (pc := 574) (v := 2) hx hb dL_law_574 (by decide) ?_
  refine z_sld (pc := 575) (v := (xs 2)) hx hb hX hbl hbA hT 2 rfl (by decide) rfl dL_law_575 ?_
  refine lv_aload_n (pc := 576) hx hb dL_law_576 rfl (lv_at hl 0 rfl) ?_
  refine lv_iload (pc := 577) hx hb dL_law_577 (lv_at hl 4 rfl) ?_
  refine lv_iconst (pc := 579) (v := 3) hx hb dL_law_579 (by decide) ?_
  refine z_iadd (pc := 580) (v := 3) hx hb dL_law_580 (by decide) ?_
  refine z_sld (pc := 581) (v := (xs 3)) hx hb hX hbl hbA hT 3 rfl (by decide) rfl dL_law_581 ?_
  refine lv_aload_n (pc := 582) hx hb dL_law_582 rfl (lv_at hl 3 rfl) ?_
  refine z_eHI (pc := 583) zE_ok hE hx hb hml hown hts hK hA hT lkH_RL_119 ((k840_L_arc l G cy hl0 h0 h1 h4 h5 h6 h7 h8 h9 h10 h11 h12 h13 h14 (xs 1) (xs 2) (xs 3) hneg).e) [0, 1] [2, 3] rfl rfl rfl rfl rfl (by decide) rfl hl.1 rfl (Nat.le_of_ble_eq_true rfl) dL_law_583 ⟨Nat.le_of_ble_eq_true rfl, Nat.le_of_ble_eq_true rfl⟩ (fun _ => [(h2, .inr (12, [.int 0, .ref h3, .int 0, .int 0, .int 0, .int (-1), .int 0, .int 0, .ref h15, .ref h16, .ref h17, .ref h18, .int 0, .ref h19, .ref h20, .int 0, .ref h21, .ref h22, .ref h23, .ref h24, .ref h25, .int 0, .ref h26, .ref h27, .ref h28, .int 0, .ref h29, .ref h30, .ref h31, .int 0, .int 0, .ref h32, .ref h33, .ref h34, .int 0, .long 0, .long 0, .ref h35, .ref h36, .ref h37, .ref h38, .ref h39, .ref h40, .ref h41, .ref h42, .ref h43, .ref h44, .int 0, .int 0, .ref h45, .ref h46, .ref h47, .ref h48, .ref h49, .ref h50, .ref h51, .ref h52, .ref h53, .int 0, .int 0, .int 0, .int 0, .long 0, .ref h54, .ref h55, .ref h56, .int 0, .int 0, .long 0])), (h3, .inl (cy 0, 3, .inl (kc 0)))]) (fun _ => rfl) (fun qs1 H locs hT => ?_)
  refine lv_istore (pc := 586) (lv' := [(5, .int 1), (0, .ref b), (1, .ref h0), (2, .ref h2), (3, .ref h4), (4, .int 0)]) hx hb dL_law_586 hl (by decide) rfl (fun ls hl => ?_)
  refine lv_aload_n (pc := 588) hx hb dL_law_588 rfl (lv_at hl 3 rfl) ?_
  refine lv_aload_n (pc := 589) hx hb dL_law_589 rfl (lv_at hl 1 rfl) ?_
  refine lv_iload (pc := 590) hx hb dL_law_590 (lv_at hl 5 rfl) ?_
  refine lv_iconst (pc := 592) (v := 1) hx hb dL_law_592 (by decide) ?_
  refine z_iadd (pc := 593) (v := 1) hx hb dL_law_593 (by decide) ?_
  refine z_sld (pc := 594) (v := (xs 1)) hx hb hX hbl hbA hT 1 rfl (by decide) rfl dL_law_594 ?_
  refine lv_aload_n (pc := 595) hx hb dL_law_595 rfl (lv_at hl 1 rfl) ?_
  refine lv_iload (pc := 596) hx hb dL_law_596 (lv_at hl 5 rfl) ?_
  refine lv_iconst (pc := 598) (v := 2) hx hb dL_law_598 (by decide) ?_
  refine z_iadd (pc := 599) (v := 2) hx hb dL_law_599 (by decide) ?_
  refine z_sld (pc := 600) (v := (xs 2)) hx hb hX hbl hbA hT 2 rfl (by decide) rfl dL_law_600 ?_
  refine lv_aload_n (pc := 601) hx hb dL_law_601 rfl (lv_at hl 1 rfl) ?_
  refine lv_iload (pc := 602) hx hb dL_law_602 (lv_at hl 5 rfl) ?_
  refine lv_iconst (pc := 604) (v := 3) hx hb dL_law_604 (by decide) ?_
  refine z_iadd (pc := 605) (v := 3) hx hb dL_law_605 (by decide) ?_
  refine z_sld (pc := 606) (v := (xs 3)) hx hb hX hbl hbA hT 3 rfl (by decide) rfl dL_law_606 ?_
  refine z_cVI (pc := 607) hx hb hml hown hts hK hA hT lkV_RL_121 (k645_X12_arc l G cy h2 h3 h15 h16 h17 h18 h19 h20 h21 h22 h23 h24 h25 h26 h27 h28 h29 h30 h31 h32 h33 h34 h35 h36 h37 h38 h39 h40 h41 h42 h43 h44 h45 h46 h47 h48 h49 h50 h51 h52 h53 h54 h55 h56 (xs 1) (xs 2) (xs 3) hneg) [0, 1] [] rfl rfl rfl rfl rfl 0 rfl rfl (by decide) rfl hl.1 rfl (Nat.le_of_ble_eq_true rfl) dL_law_607 ⟨Nat.le_of_ble_eq_true rfl, Nat.le_of_ble_eq_true rfl⟩ (fun _ => [(h2, .inr (12, [.int 1, .ref h3, .int 0, .int 0, .int 0, .int (-1), .int 0, .int 0, .ref h15, .ref h16, .ref h17, .ref h18, .int 0, .ref h19, .ref h20, .int 0, .ref h21, .ref h22, .ref h23, .ref h24, .ref h25, .int 0, .ref h26, .ref h27, .ref h28, .int 0, .ref h29, .ref h30, .ref h31, .int 0, .int 0, .ref h32, .ref h33, .ref h34, .int 0, .long 0, .long 0, .ref h35, .ref h36, .ref h37, .ref h38, .ref h39, .ref h40, .ref h41, .ref h42, .ref h43, .ref h44, .int 0, .int 0, .ref h45, .ref h46, .ref h47, .ref h48, .ref h49, .ref h50, .ref h51, .ref h52, .ref h53, .int 0, .int 0, .int 0, .int 0, .long 0, .ref h54, .ref h55, .ref h56, .int 0, .int 0, .long 0]))]) (fun _ => rfl) (fun qs2 H locs hT => ?_)
  refine lv_istore (pc := 610) (lv' := [(6, .int 0), (5, .int 1), (0, .ref b), (1, .ref h0), (2, .ref h2), (3, .ref h4), (4, .int 0)]) hx hb dL_law_610 hl (by decide) rfl (fun ls hl => ?_)
  refine lv_aload_n (pc := 612) hx hb dL_law_612 rfl (lv_at hl 4 rfl) ?_
  refine z_cVI (pc := 613) hx hb hml hown hts hK hA hT lkV_RL_96 (k1051_X12_thrown l G cy h2 h3 h15 h16 h17 h18 h19 h20 h21 h22 h23 h24 h25 h26 h27 h28 h29 h30 h31 h32 h33 h34 h35 h36 h37 h38 h39 h40 h41 h42 h43 h44 h45 h46 h47 h48 h49 h50 h51 h52 h53 h54 h55 h56) [0] [] rfl rfl rfl rfl rfl 0 rfl rfl (by decide) rfl hl.1 rfl (Nat.le_of_ble_eq_true rfl) dL_law_613 ⟨Nat.le_of_ble_eq_true rfl, Nat.le_of_ble_eq_true rfl⟩ (fun _ => [(h2, .inr (12, [.int 1, .ref h3, .int 0, .int 0, .int 0, .int (-1), .int 0, .int 0, .ref h15, .ref h16, .ref h17, .ref h18, .int 0, .ref h19, .ref h20, .int 0, .ref h21, .ref h22, .ref h23, .ref h24, .ref h25, .int 0, .ref h26, .ref h27, .ref h28, .int 0, .ref h29, .ref h30, .ref h31, .int 0, .int 0, .ref h32, .ref h33, .ref h34, .int 0, .long 0, .long 0, .ref h35, .ref h36, .ref h37, .ref h38, .ref h39, .ref h40, .ref h41, .ref h42, .ref h43, .ref h44, .int 0, .int 0, .ref h45, .ref h46, .ref h47, .ref h48, .ref h49, .ref h50, .ref h51, .ref h52, .ref h53, .int 0, .int 0, .int 0, .int 0, .long 0, .ref h54, .ref h55, .ref h56, .int 0, .int 0, .long 0]))]) (fun _ => rfl) (fun qs3 H locs hT => ?_)
  refine lv_iload (pc := 616) hx hb dL_law_616 (lv_at hl 1 rfl) ?_
  refine zb_icmp_eq_t (pc := 618) (tgt := 623) hx hb dL_law_618 (by decide) (by decide) ?_
  refine lv_iload (pc := 623) hx hb dL_law_623 (lv_at hl 1 rfl) ?_
  refine zb_if_ne_t (pc := 625) (tgt := 640) hx hb dL_law_625 (by decide) (by decide) ?_
  refine lv_goto (pc := 640) (tgt := 1719) hx hb dL_law_640 (by decide) ?_
  exact q_end hx hb hr hlk hX hbl hT (lv_sub hl [2, 6] rfl) (Nat.le_of_ble_eq_true rfl) (Nat.le_of_ble_eq_true rfl)
set_option maxHeartbeats 4000000 in
set_option maxRecDepth 100000 in
theorem q_arc_0_big {p : Program} {l : Launch} {e : Env} {s : State} {m : MethodId} {below : List Frame} {meth : Method} {c : Code} {H : Heap} {locs : List Loc} {ls : Array Slot} {G : va_G} {cy : Nat → ClassId} {b : Nat} {xs : Nat → Int32} (C : zC l G cy p s m meth c b 6 xs) (h0 h1 h2 h3 h4 h5 h6 h7 h8 h9 h10 h11 h12 h13 h14 h15 h16 h17 h18 h19 h20 h21 h22 h23 h24 h25 h26 h27 h28 h29 h30 h31 h32 h33 h34 h35 h36 h37 h38 h39 h40 h41 h42 h43 h44 h45 h46 h47 h48 h49 h50 h51 h52 h53 h54 h55 h56 : Nat) (hb1 : ¬ ((xs 1) : Int32) < 0) (hb2 : ¬ ((xs 1) : Int32) < 6) (hb3 : (5 : Int32) < (xs 1)) (hT : zT G (fun q => s.heap.size ≤ q) s.heap H locs [(h0, .inr (11, [.ref h5, .ref h6, .ref h7, .ref h8, .ref h9, .ref h10, .ref h11, .ref h12, .ref h13, .ref h14, .ref h1, .int (-1), .int (-1), .int (-1), .int (-1)])), (h1, .inl (cy 0, 3, .inl (kc 0))), (h2, .inr (12, [.int 0, .ref h3, .int 0, .int 0, .int 0, .int (-1), .int 0, .int 0, .ref h15, .ref h16, .ref h17, .ref h18, .int 0, .ref h19, .ref h20, .int 0, .ref h21, .ref h22, .ref h23, .ref h24, .ref h25, .int 0, .ref h26, .ref h27, .ref h28, .int 0, .ref h29, .ref h30, .ref h31, .int 0, .int 0, .ref h32, .ref h33, .ref h34, .int 0, .long 0, .long 0, .ref h35, .ref h36, .ref h37, .ref h38, .ref h39, .ref h40, .ref h41, .ref h42, .ref h43, .ref h44, .int 0, .int 0, .ref h45, .ref h46, .ref h47, .ref h48, .ref h49, .ref h50, .ref h51, .ref h52, .ref h53, .int 0, .int 0, .int 0, .int 0, .long 0, .ref h54, .ref h55, .ref h56, .int 0, .int 0, .long 0])), (h3, .inl (cy 0, 3, .inl (kc 0)))]) (hl : lv_has ls 8 [(0, .ref b), (1, .ref h0), (2, .ref h2), (3, .ref h4), (4, .int 0)]) : W p l e (zR 1000 600002 7302232) s m #[Value.ref b] below meth c H locs 476 284354 (lw_Z below #[Value.ref b] s) (F0 m 563 ls []) := by
  obtain ⟨hl0, hx, hb, hr, hml, hown, hts, hX, hbl, hlk, hK, hE, q1, v1, q2, v2, hS⟩ := C
  have hA : ∀ q : Nat, s.heap.size ≤ q → (fun q => s.heap.size ≤ q) q := fun _ h => h
  have hbA : ¬ (fun q => s.heap.size ≤ q) b := Nat.not_le.mpr hbl
  refine lv_aload_n (pc := 563) hx hb dL_law_563 rfl (lv_at hl 1 rfl) ?_
  refine lv_aload_n (pc := 564) hx hb dL_law_564 rfl (lv_at hl 0 rfl) ?_
  refine lv_iload (pc := 565) hx hb dL_law_565 (lv_at hl 4 rfl) ?_
  refine lv_iconst (pc := 567) (v := 1) hx hb dL_law_567 (by decide) ?_
  refine z_iadd (pc := 568) (v := 1) hx hb dL_law_568 (by decide) ?_
  refine z_sld (pc := 569) (v := (xs 1)) hx hb hX hbl hbA hT 1 rfl (by decide) rfl dL_law_569 ?_
  refine lv_aload_n (pc := 570) hx hb dL_law_570 rfl (lv_at hl 0 rfl) ?_
  refine lv_iload (pc := 571) hx hb dL_law_571 (lv_at hl 4 rfl) ?_
  refine lv_iconst (pc := 573) (v := 2) hx hb dL_law_573 (by decide) ?_
  refine z_iadd (pc := 574) (v := 2) hx hb dL_law_574 (by decide) ?_
  refine z_sld (pc := 575) (v := (xs 2)) hx hb hX hbl hbA hT 2 rfl (by decide) rfl dL_law_575 ?_
  refine lv_aload_n (pc := 576) hx hb dL_law_576 rfl (lv_at hl 0 rfl) ?_
  refine lv_iload (pc := 577) hx hb dL_law_577 (lv_at hl 4 rfl) ?_
  refine lv_iconst (pc := 579) (v := 3) hx hb dL_law_579 (by decide) ?_
  refine z_iadd (pc := 580) (v := 3) hx hb dL_law_580 (by decide) ?_
  refine z_sld (pc := 581) (v := (xs 3)) hx hb hX hbl hbA hT 3 rfl (by decide) rfl dL_law_581 ?_
  refine lv_aload_n (pc := 582) hx hb dL_law_582 rfl (lv_at hl 3 rfl) ?_
  refine z_eHI (pc := 583) zE_ok hE hx hb hml hown hts hK hA hT lkH_RL_119 ((k841_L_arc l G cy hl0 h0 h1 h4 h5 h6 h7 h8 h9 h10 h11 h12 h13 h14 (xs 1) (xs 2) (xs 3) hb1 hb2).e) [0, 1] [2, 3] rfl rfl rfl rfl rfl (by decide) rfl hl.1 rfl (Nat.le_of_ble_eq_true rfl) dL_law_583 ⟨Nat.le_of_ble_eq_true rfl, Nat.le_of_ble_eq_true rfl⟩ (fun _ => [(h2, .inr (12, [.int 0, .ref h3, .int 0, .int 0, .int 0, .int (-1), .int 0, .int 0, .ref h15, .ref h16, .ref h17, .ref h18, .int 0, .ref h19, .ref h20, .int 0, .ref h21, .ref h22, .ref h23, .ref h24, .ref h25, .int 0, .ref h26, .ref h27, .ref h28, .int 0, .ref h29, .ref h30, .ref h31, .int 0, .int 0, .ref h32, .ref h33, .ref h34, .int 0, .long 0, .long 0, .ref h35, .ref h36, .ref h37, .ref h38, .ref h39, .ref h40, .ref h41, .ref h42, .ref h43, .ref h44, .int 0, .int 0, .ref h45, .ref h46, .ref h47, .ref h48, .ref h49, .ref h50, .ref h51, .ref h52, .ref h53, .int 0, .int 0, .int 0, .int 0, .long 0, .ref h54, .ref h55, .ref h56, .int 0, .int 0, .long 0])), (h3, .inl (cy 0, 3, .inl (kc 0)))]) (fun _ => rfl) (fun qs1 H locs hT => ?_)
  refine lv_istore (pc := 586) (lv' := [(5, .int 1), (0, .ref b), (1, .ref h0), (2, .ref h2), (3, .ref h4), (4, .int 0)]) hx hb dL_law_586 hl (by decide) rfl (fun ls hl => ?_)
  refine lv_aload_n (pc := 588) hx hb dL_law_588 rfl (lv_at hl 3 rfl) ?_
  refine lv_aload_n (pc := 589) hx hb dL_law_589 rfl (lv_at hl 1 rfl) ?_
  refine lv_iload (pc := 590) hx hb dL_law_590 (lv_at hl 5 rfl) ?_
  refine lv_iconst (pc := 592) (v := 1) hx hb dL_law_592 (by decide) ?_
  refine z_iadd (pc := 593) (v := 1) hx hb dL_law_593 (by decide) ?_
  refine z_sld (pc := 594) (v := (xs 1)) hx hb hX hbl hbA hT 1 rfl (by decide) rfl dL_law_594 ?_
  refine lv_aload_n (pc := 595) hx hb dL_law_595 rfl (lv_at hl 1 rfl) ?_
  refine lv_iload (pc := 596) hx hb dL_law_596 (lv_at hl 5 rfl) ?_
  refine lv_iconst (pc := 598) (v := 2) hx hb dL_law_598 (by decide) ?_
  refine z_iadd (pc := 599) (v := 2) hx hb dL_law_599 (by decide) ?_
  refine z_sld (pc := 600) (v := (xs 2)) hx hb hX hbl hbA hT 2 rfl (by decide) rfl dL_law_600 ?_
  refine lv_aload_n (pc := 601) hx hb dL_law_601 rfl (lv_at hl 1 rfl) ?_
  refine lv_iload (pc := 602) hx hb dL_law_602 (lv_at hl 5 rfl) ?_
  refine lv_iconst (pc := 604) (v := 3) hx hb dL_law_604 (by decide) ?_
  refine z_iadd (pc := 605) (v := 3) hx hb dL_law_605 (by decide) ?_
  refine z_sld (pc := 606) (v := (xs 3)) hx hb hX hbl hbA hT 3 rfl (by decide) rfl dL_law_606 ?_
  refine z_cVI (pc := 607) hx hb hml hown hts hK hA hT lkV_RL_121 (k646_X12_arc l G cy h2 h3 h15 h16 h17 h18 h19 h20 h21 h22 h23 h24 h25 h26 h27 h28 h29 h30 h31 h32 h33 h34 h35 h36 h37 h38 h39 h40 h41 h42 h43 h44 h45 h46 h47 h48 h49 h50 h51 h52 h53 h54 h55 h56 (xs 1) (xs 2) (xs 3) hb1 hb3) [0, 1] [] rfl rfl rfl rfl rfl 0 rfl rfl (by decide) rfl hl.1 rfl (Nat.le_of_ble_eq_true rfl) dL_law_607 ⟨Nat.le_of_ble_eq_true rfl, Nat.le_of_ble_eq_true rfl⟩ (fun _ => [(h2, .inr (12, [.int 1, .ref h3, .int 0, .int 0, .int 0, .int (-1), .int 0, .int 0, .ref h15, .ref h16, .ref h17, .ref h18, .int 0, .ref h19, .ref h20, .int 0, .ref h21, .ref h22, .ref h23, .ref h24, .ref h25, .int 0, .ref h26, .ref h27, .ref h28, .int 0, .ref h29, .ref h30, .ref h31, .int 0, .int 0, .ref h32, .ref h33, .ref h34, .int 0, .long 0, .long 0, .ref h35, .ref h36, .ref h37, .ref h38, .ref h39, .ref h40, .ref h41, .ref h42, .ref h43, .ref h44, .int 0, .int 0, .ref h45, .ref h46, .ref h47, .ref h48, .ref h49, .ref h50, .ref h51, .ref h52, .ref h53, .int 0, .int 0, .int 0, .int 0, .long 0, .ref h54, .ref h55, .ref h56, .int 0, .int 0, .long 0]))]) (fun _ => rfl) (fun qs2 H locs hT => ?_)
  refine lv_istore (pc := 610) (lv' := [(6, .int 0), (5, .int 1), (0, .ref b), (1, .ref h0), (2, .ref h2), (3, .ref h4), (4, .int 0)]) hx hb dL_law_610 hl (by decide) rfl (fun ls hl => ?_)
  refine lv_aload_n (pc := 612) hx hb dL_law_612 rfl (lv_at hl 4 rfl) ?_
  refine z_cVI (pc := 613) hx hb hml hown hts hK hA hT lkV_RL_96 (k1051_X12_thrown l G cy h2 h3 h15 h16 h17 h18 h19 h20 h21 h22 h23 h24 h25 h26 h27 h28 h29 h30 h31 h32 h33 h34 h35 h36 h37 h38 h39 h40 h41 h42 h43 h44 h45 h46 h47 h48 h49 h50 h51 h52 h53 h54 h55 h56) [0] [] rfl rfl rfl rfl rfl 0 rfl rfl (by decide) rfl hl.1 rfl (Nat.le_of_ble_eq_true rfl) dL_law_613 ⟨Nat.le_of_ble_eq_true rfl, Nat.le_of_ble_eq_true rfl⟩ (fun _ => [(h2, .inr (12, [.int 1, .ref h3, .int 0, .int 0, .int 0, .int (-1), .int 0, .int 0, .ref h15, .ref h16, .ref h17, .ref h18, .int 0, .ref h19, .ref h20, .int 0, .ref h21, .ref h22, .ref h23, .ref h24, .ref h25, .int 0, .ref h26, .ref h27, .ref h28, .int 0, .ref h29, .ref h30, .ref h31, .int 0, .int 0, .ref h32, .ref h33, .ref h34, .int 0, .long 0, .long 0, .ref h35, .ref h36, .ref h37, .ref h38, .ref h39, .ref h40, .ref h41, .ref h42, .ref h43, .ref h44, .int 0, .int 0, .ref h45, .ref h46, .ref h47, .ref h48, .ref h49, .ref h50, .ref h51, .ref h52, .ref h53, .int 0, .int 0, .int 0, .int 0, .long 0, .ref h54, .ref h55, .ref h56, .int 0, .int 0, .long 0]))]) (fun _ => rfl) (fun qs3 H locs hT => ?_)
  refine lv_iload (pc := 616) hx hb dL_law_616 (lv_at hl 1 rfl) ?_
  refine zb_icmp_eq_t (pc := 618) (tgt := 623) hx hb dL_law_618 (by decide) (by decide) ?_
  refine lv_iload (pc := 623) hx hb dL_law_623 (lv_at hl 1 rfl) ?_
  refine zb_if_ne_t (pc := 625) (tgt := 640) hx hb dL_law_625 (by decide) (by decide) ?_
  refine lv_goto (pc := 640) (tgt := 1719) hx hb dL_law_640 (by decide) ?_
  exact q_end hx hb hr hlk hX hbl hT (lv_sub hl [2, 6] rfl) (Nat.le_of_ble_eq_true rfl) (Nat.le_of_ble_eq_true rfl)
set_option maxHeartbeats 4000000 in
set_option maxRecDepth 100000 in
theorem q_arc_1_neg_0 {p : Program} {l : Launch} {e : Env} {s : State} {m : MethodId} {below : List Frame} {meth : Method} {c : Code} {H : Heap} {locs : List Loc} {ls : Array Slot} {G : va_G} {cy : Nat → ClassId} {b : Nat} {xs : Nat → Int32} (C : zC l G cy p s m meth c b 6 xs) (h0 h1 h2 h3 h4 h5 h6 h7 h8 h9 h10 h11 h12 h13 h14 h15 h16 h17 h18 h19 h20 h21 h22 h23 h24 h25 h26 h27 h28 h29 h30 h31 h32 h33 h34 h35 h36 h37 h38 h39 h40 h41 h42 h43 h44 h45 h46 h47 h48 h49 h50 h51 h52 h53 h54 h55 h56 h57 h58 h59 h60 h61 h62 h63 h64 h65 h66 : Nat) (gx : Nat → Nat) (gm : Nat → Nat) (hs1 : xs 1 = 0) (hneg : ((xs 2) : Int32) < 0) (hT : zT G (fun q => s.heap.size ≤ q) s.heap H locs [(h0, .inr (11, [.ref h1, .ref h7, .ref h8, .ref h9, .ref h10, .ref h11, .ref h12, .ref h13, .ref h14, .ref h15, .ref h2, .int (-1), .int (-1), .int (-1), .int (-1)])), (h1, .inl (cy 3, 6, .inr (.inr (.inr (.inr (fun i => some (gx i))))))), ((gx 0), .inr (3, [.int 1, .int 0, .int 0, .int 0, .ref h16, .ref h17, .ref h18, .ref h19, .ref h20, .ref h21, .ref h22, .ref h23, .ref h24, .ref h25])), (h2, .inl (cy 0, 3, .inl (kc 0))), (h3, .inr (12, [.int 0, .ref h5, .int 0, .int 0, .int 0, .int (-1), .int 0, .int 0, .ref h26, .ref h4, .ref h27, .ref h28, .int 0, .ref h29, .ref h30, .int 0, .ref h31, .ref h32, .ref h33, .ref h34, .ref h35, .int 0, .ref h36, .ref h37, .ref h38, .int 0, .ref h39, .ref h40, .ref h41, .int 0, .int 0, .ref h42, .ref h43, .ref h44, .int 0, .long 0, .long 0, .ref h45, .ref h46, .ref h47, .ref h48, .ref h49, .ref h50, .ref h51, .ref h52, .ref h53, .ref h54, .int 0, .int 0, .ref h55, .ref h56, .ref h57, .ref h58, .ref h59, .ref h60, .ref h61, .ref h62, .ref h63, .int 0, .int 0, .int 0, .int 0, .long 0, .ref h64, .ref h65, .ref h66, .int 0, .int 0, .long 0])), (h4, .inl (cy 4, 6, .inr (.inr (.inr (.inr (fun i => some (gm i))))))), ((gm 0), .inl (cy 0, 643, .inl (zfil (upd (kc 0) 0 1) 3 43 (-1)))), (h5, .inl (cy 0, 3, .inl (kc 0)))]) (hl : lv_has ls 8 [(0, .ref b), (1, .ref h0), (2, .ref h3), (3, .ref h6), (4, .int 0)]) : W p l e (zR 1000 600002 7302232) s m #[Value.ref b] below meth c H locs 476 284354 (lw_Z below #[Value.ref b] s) (F0 m 563 ls []) := by
  obtain ⟨hl0, hx, hb, hr, hml, hown, hts, hX, hbl, hlk, hK, hE, q1, v1, q2, v2, hS⟩ := C
  have hA : ∀ q : Nat, s.heap.size ≤ q → (fun q => s.heap.size ≤ q) q := fun _ h => h
  have hbA : ¬ (fun q => s.heap.size ≤ q) b := Nat.not_le.mpr hbl
  refine lv_aload_n (pc := 563) hx hb dL_law_563 rfl (lv_at hl 1 rfl) ?_
  refine lv_aload_n (pc := 564) hx hb dL_law_564 rfl (lv_at hl 0 rfl) ?_
  refine lv_iload (pc := 565) hx hb dL_law_565 (lv_at hl 4 rfl) ?_
  refine lv_iconst (pc := 567) (v := 1) hx hb dL_law_567 (by decide) ?_
  refine z_iadd (pc := 568) (v := 1) hx hb dL_law_568 (by decide) ?_
  refine z_sld (pc := 569) (v := 0) hx hb hX hbl hbA hT 1 rfl (by decide) hs1 dL_law_569 ?_
  refine lv_aload_n (pc := 570) hx hb dL_law_570 rfl (lv_at hl 0 rfl) ?_
  refine lv_iload (pc := 571) hx hb dL_law_571 (lv_at hl 4 rfl) ?_
  refine lv_iconst (pc := 573) (v := 2) hx hb dL_law_573 (by decide) ?_
  refine z_iadd (pc := 574) (v := 2) hx hb dL_law_574 (by decide) ?_
  refine z_sld (pc := 575) (v := (xs 2)) hx hb hX hbl hbA hT 2 rfl (by decide) rfl dL_law_575 ?_
  refine lv_aload_n (pc := 576) hx hb dL_law_576 rfl (lv_at hl 0 rfl) ?_
  refine lv_iload (pc := 577) hx hb dL_law_577 (lv_at hl 4 rfl) ?_
  refine lv_iconst (pc := 579) (v := 3) hx hb dL_law_579 (by decide) ?_
  refine z_iadd (pc := 580) (v := 3) hx hb dL_law_580 (by decide) ?_
  refine z_sld (pc := 581) (v := (xs 3)) hx hb hX hbl hbA hT 3 rfl (by decide) rfl dL_law_581 ?_
  refine lv_aload_n (pc := 582) hx hb dL_law_582 rfl (lv_at hl 3 rfl) ?_
  refine z_eHI (pc := 583) zE_ok hE hx hb hml hown hts hK hA hT lkH_RL_119 ((k842_L_arc l G cy hl0 h0 h1 h2 h6 h7 h8 h9 h10 h11 h12 h13 h14 h15 h16 h17 h18 h19 h20 h21 h22 h23 h24 h25 (xs 2) (xs 3) 0 (gx) (by omega) (by omega) hneg).e) [0, 1, 2, 3] [4, 5, 6, 7] rfl rfl rfl rfl rfl (by decide) rfl hl.1 rfl (Nat.le_of_ble_eq_true rfl) dL_law_583 ⟨Nat.le_of_ble_eq_true rfl, Nat.le_of_ble_eq_true rfl⟩ (fun _ => [(h3, .inr (12, [.int 0, .ref h5, .int 0, .int 0, .int 0, .int (-1), .int 0, .int 0, .ref h26, .ref h4, .ref h27, .ref h28, .int 0, .ref h29, .ref h30, .int 0, .ref h31, .ref h32, .ref h33, .ref h34, .ref h35, .int 0, .ref h36, .ref h37, .ref h38, .int 0, .ref h39, .ref h40, .ref h41, .int 0, .int 0, .ref h42, .ref h43, .ref h44, .int 0, .long 0, .long 0, .ref h45, .ref h46, .ref h47, .ref h48, .ref h49, .ref h50, .ref h51, .ref h52, .ref h53, .ref h54, .int 0, .int 0, .ref h55, .ref h56, .ref h57, .ref h58, .ref h59, .ref h60, .ref h61, .ref h62, .ref h63, .int 0, .int 0, .int 0, .int 0, .long 0, .ref h64, .ref h65, .ref h66, .int 0, .int 0, .long 0])), (h4, .inl (cy 4, 6, .inr (.inr (.inr (.inr (fun i => some (gm i))))))), ((gm 0), .inl (cy 0, 643, .inl (zfil (upd (kc 0) 0 1) 3 43 (-1)))), (h5, .inl (cy 0, 3, .inl (kc 0)))]) (fun _ => rfl) (fun qs1 H locs hT => ?_)
  refine lv_istore (pc := 586) (lv' := [(5, .int 1), (0, .ref b), (1, .ref h0), (2, .ref h3), (3, .ref h6), (4, .int 0)]) hx hb dL_law_586 hl (by decide) rfl (fun ls hl => ?_)
  refine lv_aload_n (pc := 588) hx hb dL_law_588 rfl (lv_at hl 3 rfl) ?_
  refine lv_aload_n (pc := 589) hx hb dL_law_589 rfl (lv_at hl 1 rfl) ?_
  refine lv_iload (pc := 590) hx hb dL_law_590 (lv_at hl 5 rfl) ?_
  refine lv_iconst (pc := 592) (v := 1) hx hb dL_law_592 (by decide) ?_
  refine z_iadd (pc := 593) (v := 1) hx hb dL_law_593 (by decide) ?_
  refine z_sld (pc := 594) (v := 0) hx hb hX hbl hbA hT 1 rfl (by decide) hs1 dL_law_594 ?_
  refine lv_aload_n (pc := 595) hx hb dL_law_595 rfl (lv_at hl 1 rfl) ?_
  refine lv_iload (pc := 596) hx hb dL_law_596 (lv_at hl 5 rfl) ?_
  refine lv_iconst (pc := 598) (v := 2) hx hb dL_law_598 (by decide) ?_
  refine z_iadd (pc := 599) (v := 2) hx hb dL_law_599 (by decide) ?_
  refine z_sld (pc := 600) (v := (xs 2)) hx hb hX hbl hbA hT 2 rfl (by decide) rfl dL_law_600 ?_
  refine lv_aload_n (pc := 601) hx hb dL_law_601 rfl (lv_at hl 1 rfl) ?_
  refine lv_iload (pc := 602) hx hb dL_law_602 (lv_at hl 5 rfl) ?_
  refine lv_iconst (pc := 604) (v := 3) hx hb dL_law_604 (by decide) ?_
  refine z_iadd (pc := 605) (v := 3) hx hb dL_law_605 (by decide) ?_
  refine z_sld (pc := 606) (v := (xs 3)) hx hb hX hbl hbA hT 3 rfl (by decide) rfl dL_law_606 ?_
  refine z_cVI (pc := 607) hx hb hml hown hts hK hA hT lkV_RL_121 (k652_X12_arc l G cy h3 h4 h5 h26 h27 h28 h29 h30 h31 h32 h33 h34 h35 h36 h37 h38 h39 h40 h41 h42 h43 h44 h45 h46 h47 h48 h49 h50 h51 h52 h53 h54 h55 h56 h57 h58 h59 h60 h61 h62 h63 h64 h65 h66 (xs 2) (xs 3) (gm) hneg) [0, 1, 2, 3] [] rfl rfl rfl rfl rfl 0 rfl rfl (by decide) rfl hl.1 rfl (Nat.le_of_ble_eq_true rfl) dL_law_607 ⟨Nat.le_of_ble_eq_true rfl, Nat.le_of_ble_eq_true rfl⟩ (fun _ => [(h3, .inr (12, [.int 1, .ref h5, .int 0, .int 0, .int 0, .int (-1), .int 0, .int 0, .ref h26, .ref h4, .ref h27, .ref h28, .int 0, .ref h29, .ref h30, .int 0, .ref h31, .ref h32, .ref h33, .ref h34, .ref h35, .int 0, .ref h36, .ref h37, .ref h38, .int 0, .ref h39, .ref h40, .ref h41, .int 0, .int 0, .ref h42, .ref h43, .ref h44, .int 0, .long 0, .long 0, .ref h45, .ref h46, .ref h47, .ref h48, .ref h49, .ref h50, .ref h51, .ref h52, .ref h53, .ref h54, .int 0, .int 0, .ref h55, .ref h56, .ref h57, .ref h58, .ref h59, .ref h60, .ref h61, .ref h62, .ref h63, .int 0, .int 0, .int 0, .int 0, .long 0, .ref h64, .ref h65, .ref h66, .int 0, .int 0, .long 0]))]) (fun _ => rfl) (fun qs2 H locs hT => ?_)
  refine lv_istore (pc := 610) (lv' := [(6, .int 0), (5, .int 1), (0, .ref b), (1, .ref h0), (2, .ref h3), (3, .ref h6), (4, .int 0)]) hx hb dL_law_610 hl (by decide) rfl (fun ls hl => ?_)
  refine lv_aload_n (pc := 612) hx hb dL_law_612 rfl (lv_at hl 4 rfl) ?_
  refine z_cVI (pc := 613) hx hb hml hown hts hK hA hT lkV_RL_96 (k1051_X12_thrown l G cy h3 h5 h26 h4 h27 h28 h29 h30 h31 h32 h33 h34 h35 h36 h37 h38 h39 h40 h41 h42 h43 h44 h45 h46 h47 h48 h49 h50 h51 h52 h53 h54 h55 h56 h57 h58 h59 h60 h61 h62 h63 h64 h65 h66) [0] [] rfl rfl rfl rfl rfl 0 rfl rfl (by decide) rfl hl.1 rfl (Nat.le_of_ble_eq_true rfl) dL_law_613 ⟨Nat.le_of_ble_eq_true rfl, Nat.le_of_ble_eq_true rfl⟩ (fun _ => [(h3, .inr (12, [.int 1, .ref h5, .int 0, .int 0, .int 0, .int (-1), .int 0, .int 0, .ref h26, .ref h4, .ref h27, .ref h28, .int 0, .ref h29, .ref h30, .int 0, .ref h31, .ref h32, .ref h33, .ref h34, .ref h35, .int 0, .ref h36, .ref h37, .ref h38, .int 0, .ref h39, .ref h40, .ref h41, .int 0, .int 0, .ref h42, .ref h43, .ref h44, .int 0, .long 0, .long 0, .ref h45, .ref h46, .ref h47, .ref h48, .ref h49, .ref h50, .ref h51, .ref h52, .ref h53, .ref h54, .int 0, .int 0, .ref h55, .ref h56, .ref h57, .ref h58, .ref h59, .ref h60, .ref h61, .ref h62, .ref h63, .int 0, .int 0, .int 0, .int 0, .long 0, .ref h64, .ref h65, .ref h66, .int 0, .int 0, .long 0]))]) (fun _ => rfl) (fun qs3 H locs hT => ?_)
  refine lv_iload (pc := 616) hx hb dL_law_616 (lv_at hl 1 rfl) ?_
  refine zb_icmp_eq_t (pc := 618) (tgt := 623) hx hb dL_law_618 (by decide) (by decide) ?_
  refine lv_iload (pc := 623) hx hb dL_law_623 (lv_at hl 1 rfl) ?_
  refine zb_if_ne_t (pc := 625) (tgt := 640) hx hb dL_law_625 (by decide) (by decide) ?_
  refine lv_goto (pc := 640) (tgt := 1719) hx hb dL_law_640 (by decide) ?_
  exact q_end hx hb hr hlk hX hbl hT (lv_sub hl [2, 6] rfl) (Nat.le_of_ble_eq_true rfl) (Nat.le_of_ble_eq_true rfl)
set_option maxHeartbeats 4000000 in
set_option maxRecDepth 100000 in
theorem q_arc_1_neg_1 {p : Program} {l : Launch} {e : Env} {s : State} {m : MethodId} {below : List Frame} {meth : Method} {c : Code} {H : Heap} {locs : List Loc} {ls : Array Slot} {G : va_G} {cy : Nat → ClassId} {b : Nat} {xs : Nat → Int32} (C : zC l G cy p s m meth c b 6 xs) (h0 h1 h2 h3 h4 h5 h6 h7 h8 h9 h10 h11 h12 h13 h14 h15 h16 h17 h18 h19 h20 h21 h22 h23 h24 h25 h26 h27 h28 h29 h30 h31 h32 h33 h34 h35 h36 h37 h38 h39 h40 h41 h42 h43 h44 h45 h46 h47 h48 h49 h50 h51 h52 h53 h54 h55 h56 h57 h58 h59 h60 h61 h62 h63 h64 h65 h66 : Nat) (gx : Nat → Nat) (gm : Nat → Nat) (hs1 : xs 1 = 1) (hneg : ((xs 2) : Int32) < 0) (hT : zT G (fun q => s.heap.size ≤ q) s.heap H locs [(h0, .inr (11, [.ref h1, .ref h7, .ref h8, .ref h9, .ref h10, .ref h11, .ref h12, .ref h13, .ref h14, .ref h15, .ref h2, .int (-1), .int (-1), .int (-1), .int (-1)])), (h1, .inl (cy 3, 6, .inr (.inr (.inr (.inr (fun i => some (gx i))))))), ((gx 1), .inr (3, [.int 1, .int 0, .int 0, .int 0, .ref h16, .ref h17, .ref h18, .ref h19, .ref h20, .ref h21, .ref h22, .ref h23, .ref h24, .ref h25])), (h2, .inl (cy 0, 3, .inl (kc 0))), (h3, .inr (12, [.int 0, .ref h5, .int 0, .int 0, .int 0, .int (-1), .int 0, .int 0, .ref h26, .ref h4, .ref h27, .ref h28, .int 0, .ref h29, .ref h30, .int 0, .ref h31, .ref h32, .ref h33, .ref h34, .ref h35, .int 0, .ref h36, .ref h37, .ref h38, .int 0, .ref h39, .ref h40, .ref h41, .int 0, .int 0, .ref h42, .ref h43, .ref h44, .int 0, .long 0, .long 0, .ref h45, .ref h46, .ref h47, .ref h48, .ref h49, .ref h50, .ref h51, .ref h52, .ref h53, .ref h54, .int 0, .int 0, .ref h55, .ref h56, .ref h57, .ref h58, .ref h59, .ref h60, .ref h61, .ref h62, .ref h63, .int 0, .int 0, .int 0, .int 0, .long 0, .ref h64, .ref h65, .ref h66, .int 0, .int 0, .long 0])), (h4, .inl (cy 4, 6, .inr (.inr (.inr (.inr (fun i => some (gm i))))))), ((gm 1), .inl (cy 0, 643, .inl (zfil (upd (kc 0) 0 1) 3 43 (-1)))), (h5, .inl (cy 0, 3, .inl (kc 0)))]) (hl : lv_has ls 8 [(0, .ref b), (1, .ref h0), (2, .ref h3), (3, .ref h6), (4, .int 0)]) : W p l e (zR 1000 600002 7302232) s m #[Value.ref b] below meth c H locs 476 284354 (lw_Z below #[Value.ref b] s) (F0 m 563 ls []) := by
  obtain ⟨hl0, hx, hb, hr, hml, hown, hts, hX, hbl, hlk, hK, hE, q1, v1, q2, v2, hS⟩ := C
  have hA : ∀ q : Nat, s.heap.size ≤ q → (fun q => s.heap.size ≤ q) q := fun _ h => h
  have hbA : ¬ (fun q => s.heap.size ≤ q) b := Nat.not_le.mpr hbl
  refine lv_aload_n (pc := 563) hx hb dL_law_563 rfl (lv_at hl 1 rfl) ?_
  refine lv_aload_n (pc := 564) hx hb dL_law_564 rfl (lv_at hl 0 rfl) ?_
  refine lv_iload (pc := 565) hx hb dL_law_565 (lv_at hl 4 rfl) ?_
  refine lv_iconst (pc := 567) (v := 1) hx hb dL_law_567 (by decide) ?_
  refine z_iadd (pc := 568) (v := 1) hx hb dL_law_568 (by decide) ?_
  refine z_sld (pc := 569) (v := 1) hx hb hX hbl hbA hT 1 rfl (by decide) hs1 dL_law_569 ?_
  refine lv_aload_n (pc := 570) hx hb dL_law_570 rfl (lv_at hl 0 rfl) ?_
  refine lv_iload (pc := 571) hx hb dL_law_571 (lv_at hl 4 rfl) ?_
  refine lv_iconst (pc := 573) (v := 2) hx hb dL_law_573 (by decide) ?_
  refine z_iadd (pc := 574) (v := 2) hx hb dL_law_574 (by decide) ?_
  refine z_sld (pc := 575) (v := (xs 2)) hx hb hX hbl hbA hT 2 rfl (by decide) rfl dL_law_575 ?_
  refine lv_aload_n (pc := 576) hx hb dL_law_576 rfl (lv_at hl 0 rfl) ?_
  refine lv_iload (pc := 577) hx hb dL_law_577 (lv_at hl 4 rfl) ?_
  refine lv_iconst (pc := 579) (v := 3) hx hb dL_law_579 (by decide) ?_
  refine z_iadd (pc := 580) (v := 3) hx hb dL_law_580 (by decide) ?_
  refine z_sld (pc := 581) (v := (xs 3)) hx hb hX hbl hbA hT 3 rfl (by decide) rfl dL_law_581 ?_
  refine lv_aload_n (pc := 582) hx hb dL_law_582 rfl (lv_at hl 3 rfl) ?_
  refine z_eHI (pc := 583) zE_ok hE hx hb hml hown hts hK hA hT lkH_RL_119 ((k842_L_arc l G cy hl0 h0 h1 h2 h6 h7 h8 h9 h10 h11 h12 h13 h14 h15 h16 h17 h18 h19 h20 h21 h22 h23 h24 h25 (xs 2) (xs 3) 1 (gx) (by omega) (by omega) hneg).e) [0, 1, 2, 3] [4, 5, 6, 7] rfl rfl rfl rfl rfl (by decide) rfl hl.1 rfl (Nat.le_of_ble_eq_true rfl) dL_law_583 ⟨Nat.le_of_ble_eq_true rfl, Nat.le_of_ble_eq_true rfl⟩ (fun _ => [(h3, .inr (12, [.int 0, .ref h5, .int 0, .int 0, .int 0, .int (-1), .int 0, .int 0, .ref h26, .ref h4, .ref h27, .ref h28, .int 0, .ref h29, .ref h30, .int 0, .ref h31, .ref h32, .ref h33, .ref h34, .ref h35, .int 0, .ref h36, .ref h37, .ref h38, .int 0, .ref h39, .ref h40, .ref h41, .int 0, .int 0, .ref h42, .ref h43, .ref h44, .int 0, .long 0, .long 0, .ref h45, .ref h46, .ref h47, .ref h48, .ref h49, .ref h50, .ref h51, .ref h52, .ref h53, .ref h54, .int 0, .int 0, .ref h55, .ref h56, .ref h57, .ref h58, .ref h59, .ref h60, .ref h61, .ref h62, .ref h63, .int 0, .int 0, .int 0, .int 0, .long 0, .ref h64, .ref h65, .ref h66, .int 0, .int 0, .long 0])), (h4, .inl (cy 4, 6, .inr (.inr (.inr (.inr (fun i => some (gm i))))))), ((gm 1), .inl (cy 0, 643, .inl (zfil (upd (kc 0) 0 1) 3 43 (-1)))), (h5, .inl (cy 0, 3, .inl (kc 0)))]) (fun _ => rfl) (fun qs1 H locs hT => ?_)
  refine lv_istore (pc := 586) (lv' := [(5, .int 1), (0, .ref b), (1, .ref h0), (2, .ref h3), (3, .ref h6), (4, .int 0)]) hx hb dL_law_586 hl (by decide) rfl (fun ls hl => ?_)
  refine lv_aload_n (pc := 588) hx hb dL_law_588 rfl (lv_at hl 3 rfl) ?_
  refine lv_aload_n (pc := 589) hx hb dL_law_589 rfl (lv_at hl 1 rfl) ?_
  refine lv_iload (pc := 590) hx hb dL_law_590 (lv_at hl 5 rfl) ?_
  refine lv_iconst (pc := 592) (v := 1) hx hb dL_law_592 (by decide) ?_
  refine z_iadd (pc := 593) (v := 1) hx hb dL_law_593 (by decide) ?_
  refine z_sld (pc := 594) (v := 1) hx hb hX hbl hbA hT 1 rfl (by decide) hs1 dL_law_594 ?_
  refine lv_aload_n (pc := 595) hx hb dL_law_595 rfl (lv_at hl 1 rfl) ?_
  refine lv_iload (pc := 596) hx hb dL_law_596 (lv_at hl 5 rfl) ?_
  refine lv_iconst (pc := 598) (v := 2) hx hb dL_law_598 (by decide) ?_
  refine z_iadd (pc := 599) (v := 2) hx hb dL_law_599 (by decide) ?_
  refine z_sld (pc := 600) (v := (xs 2)) hx hb hX hbl hbA hT 2 rfl (by decide) rfl dL_law_600 ?_
  refine lv_aload_n (pc := 601) hx hb dL_law_601 rfl (lv_at hl 1 rfl) ?_
  refine lv_iload (pc := 602) hx hb dL_law_602 (lv_at hl 5 rfl) ?_
  refine lv_iconst (pc := 604) (v := 3) hx hb dL_law_604 (by decide) ?_
  refine z_iadd (pc := 605) (v := 3) hx hb dL_law_605 (by decide) ?_
  refine z_sld (pc := 606) (v := (xs 3)) hx hb hX hbl hbA hT 3 rfl (by decide) rfl dL_law_606 ?_
  refine z_cVI (pc := 607) hx hb hml hown hts hK hA hT lkV_RL_121 (k657_X12_arc l G cy h3 h4 h5 h26 h27 h28 h29 h30 h31 h32 h33 h34 h35 h36 h37 h38 h39 h40 h41 h42 h43 h44 h45 h46 h47 h48 h49 h50 h51 h52 h53 h54 h55 h56 h57 h58 h59 h60 h61 h62 h63 h64 h65 h66 (xs 2) (xs 3) (gm) hneg) [0, 1, 2, 3] [] rfl rfl rfl rfl rfl 0 rfl rfl (by decide) rfl hl.1 rfl (Nat.le_of_ble_eq_true rfl) dL_law_607 ⟨Nat.le_of_ble_eq_true rfl, Nat.le_of_ble_eq_true rfl⟩ (fun _ => [(h3, .inr (12, [.int 1, .ref h5, .int 0, .int 0, .int 0, .int (-1), .int 0, .int 0, .ref h26, .ref h4, .ref h27, .ref h28, .int 0, .ref h29, .ref h30, .int 0, .ref h31, .ref h32, .ref h33, .ref h34, .ref h35, .int 0, .ref h36, .ref h37, .ref h38, .int 0, .ref h39, .ref h40, .ref h41, .int 0, .int 0, .ref h42, .ref h43, .ref h44, .int 0, .long 0, .long 0, .ref h45, .ref h46, .ref h47, .ref h48, .ref h49, .ref h50, .ref h51, .ref h52, .ref h53, .ref h54, .int 0, .int 0, .ref h55, .ref h56, .ref h57, .ref h58, .ref h59, .ref h60, .ref h61, .ref h62, .ref h63, .int 0, .int 0, .int 0, .int 0, .long 0, .ref h64, .ref h65, .ref h66, .int 0, .int 0, .long 0]))]) (fun _ => rfl) (fun qs2 H locs hT => ?_)
  refine lv_istore (pc := 610) (lv' := [(6, .int 0), (5, .int 1), (0, .ref b), (1, .ref h0), (2, .ref h3), (3, .ref h6), (4, .int 0)]) hx hb dL_law_610 hl (by decide) rfl (fun ls hl => ?_)
  refine lv_aload_n (pc := 612) hx hb dL_law_612 rfl (lv_at hl 4 rfl) ?_
  refine z_cVI (pc := 613) hx hb hml hown hts hK hA hT lkV_RL_96 (k1051_X12_thrown l G cy h3 h5 h26 h4 h27 h28 h29 h30 h31 h32 h33 h34 h35 h36 h37 h38 h39 h40 h41 h42 h43 h44 h45 h46 h47 h48 h49 h50 h51 h52 h53 h54 h55 h56 h57 h58 h59 h60 h61 h62 h63 h64 h65 h66) [0] [] rfl rfl rfl rfl rfl 0 rfl rfl (by decide) rfl hl.1 rfl (Nat.le_of_ble_eq_true rfl) dL_law_613 ⟨Nat.le_of_ble_eq_true rfl, Nat.le_of_ble_eq_true rfl⟩ (fun _ => [(h3, .inr (12, [.int 1, .ref h5, .int 0, .int 0, .int 0, .int (-1), .int 0, .int 0, .ref h26, .ref h4, .ref h27, .ref h28, .int 0, .ref h29, .ref h30, .int 0, .ref h31, .ref h32, .ref h33, .ref h34, .ref h35, .int 0, .ref h36, .ref h37, .ref h38, .int 0, .ref h39, .ref h40, .ref h41, .int 0, .int 0, .ref h42, .ref h43, .ref h44, .int 0, .long 0, .long 0, .ref h45, .ref h46, .ref h47, .ref h48, .ref h49, .ref h50, .ref h51, .ref h52, .ref h53, .ref h54, .int 0, .int 0, .ref h55, .ref h56, .ref h57, .ref h58, .ref h59, .ref h60, .ref h61, .ref h62, .ref h63, .int 0, .int 0, .int 0, .int 0, .long 0, .ref h64, .ref h65, .ref h66, .int 0, .int 0, .long 0]))]) (fun _ => rfl) (fun qs3 H locs hT => ?_)
  refine lv_iload (pc := 616) hx hb dL_law_616 (lv_at hl 1 rfl) ?_
  refine zb_icmp_eq_t (pc := 618) (tgt := 623) hx hb dL_law_618 (by decide) (by decide) ?_
  refine lv_iload (pc := 623) hx hb dL_law_623 (lv_at hl 1 rfl) ?_
  refine zb_if_ne_t (pc := 625) (tgt := 640) hx hb dL_law_625 (by decide) (by decide) ?_
  refine lv_goto (pc := 640) (tgt := 1719) hx hb dL_law_640 (by decide) ?_
  exact q_end hx hb hr hlk hX hbl hT (lv_sub hl [2, 6] rfl) (Nat.le_of_ble_eq_true rfl) (Nat.le_of_ble_eq_true rfl)
set_option maxHeartbeats 4000000 in
set_option maxRecDepth 100000 in
theorem q_arc_1_neg_2 {p : Program} {l : Launch} {e : Env} {s : State} {m : MethodId} {below : List Frame} {meth : Method} {c : Code} {H : Heap} {locs : List Loc} {ls : Array Slot} {G : va_G} {cy : Nat → ClassId} {b : Nat} {xs : Nat → Int32} (C : zC l G cy p s m meth c b 6 xs) (h0 h1 h2 h3 h4 h5 h6 h7 h8 h9 h10 h11 h12 h13 h14 h15 h16 h17 h18 h19 h20 h21 h22 h23 h24 h25 h26 h27 h28 h29 h30 h31 h32 h33 h34 h35 h36 h37 h38 h39 h40 h41 h42 h43 h44 h45 h46 h47 h48 h49 h50 h51 h52 h53 h54 h55 h56 h57 h58 h59 h60 h61 h62 h63 h64 h65 h66 : Nat) (gx : Nat → Nat) (gm : Nat → Nat) (hs1 : xs 1 = 2) (hneg : ((xs 2) : Int32) < 0) (hT : zT G (fun q => s.heap.size ≤ q) s.heap H locs [(h0, .inr (11, [.ref h1, .ref h7, .ref h8, .ref h9, .ref h10, .ref h11, .ref h12, .ref h13, .ref h14, .ref h15, .ref h2, .int (-1), .int (-1), .int (-1), .int (-1)])), (h1, .inl (cy 3, 6, .inr (.inr (.inr (.inr (fun i => some (gx i))))))), ((gx 2), .inr (3, [.int 1, .int 0, .int 0, .int 0, .ref h16, .ref h17, .ref h18, .ref h19, .ref h20, .ref h21, .ref h22, .ref h23, .ref h24, .ref h25])), (h2, .inl (cy 0, 3, .inl (kc 0))), (h3, .inr (12, [.int 0, .ref h5, .int 0, .int 0, .int 0, .int (-1), .int 0, .int 0, .ref h26, .ref h4, .ref h27, .ref h28, .int 0, .ref h29, .ref h30, .int 0, .ref h31, .ref h32, .ref h33, .ref h34, .ref h35, .int 0, .ref h36, .ref h37, .ref h38, .int 0, .ref h39, .ref h40, .ref h41, .int 0, .int 0, .ref h42, .ref h43, .ref h44, .int 0, .long 0, .long 0, .ref h45, .ref h46, .ref h47, .ref h48, .ref h49, .ref h50, .ref h51, .ref h52, .ref h53, .ref h54, .int 0, .int 0, .ref h55, .ref h56, .ref h57, .ref h58, .ref h59, .ref h60, .ref h61, .ref h62, .ref h63, .int 0, .int 0, .int 0, .int 0, .long 0, .ref h64, .ref h65, .ref h66, .int 0, .int 0, .long 0])), (h4, .inl (cy 4, 6, .inr (.inr (.inr (.inr (fun i => some (gm i))))))), ((gm 2), .inl (cy 0, 643, .inl (zfil (upd (kc 0) 0 1) 3 43 (-1)))), (h5, .inl (cy 0, 3, .inl (kc 0)))]) (hl : lv_has ls 8 [(0, .ref b), (1, .ref h0), (2, .ref h3), (3, .ref h6), (4, .int 0)]) : W p l e (zR 1000 600002 7302232) s m #[Value.ref b] below meth c H locs 476 284354 (lw_Z below #[Value.ref b] s) (F0 m 563 ls []) := by
  obtain ⟨hl0, hx, hb, hr, hml, hown, hts, hX, hbl, hlk, hK, hE, q1, v1, q2, v2, hS⟩ := C
  have hA : ∀ q : Nat, s.heap.size ≤ q → (fun q => s.heap.size ≤ q) q := fun _ h => h
  have hbA : ¬ (fun q => s.heap.size ≤ q) b := Nat.not_le.mpr hbl
  refine lv_aload_n (pc := 563) hx hb dL_law_563 rfl (lv_at hl 1 rfl) ?_
  refine lv_aload_n (pc := 564) hx hb dL_law_564 rfl (lv_at hl 0 rfl) ?_
  refine lv_iload (pc := 565) hx hb dL_law_565 (lv_at hl 4 rfl) ?_
  refine lv_iconst (pc := 567) (v := 1) hx hb dL_law_567 (by decide) ?_
  refine z_iadd (pc := 568) (v := 1) hx hb dL_law_568 (by decide) ?_
  refine z_sld (pc := 569) (v := 2) hx hb hX hbl hbA hT 1 rfl (by decide) hs1 dL_law_569 ?_
  refine lv_aload_n (pc := 570) hx hb dL_law_570 rfl (lv_at hl 0 rfl) ?_
  refine lv_iload (pc := 571) hx hb dL_law_571 (lv_at hl 4 rfl) ?_
  refine lv_iconst (pc := 573) (v := 2) hx hb dL_law_573 (by decide) ?_
  refine z_iadd (pc := 574) (v := 2) hx hb dL_law_574 (by decide) ?_
  refine z_sld (pc := 575) (v := (xs 2)) hx hb hX hbl hbA hT 2 rfl (by decide) rfl dL_law_575 ?_
  refine lv_aload_n (pc := 576) hx hb dL_law_576 rfl (lv_at hl 0 rfl) ?_
  refine lv_iload (pc := 577) hx hb dL_law_577 (lv_at hl 4 rfl) ?_
  refine lv_iconst (pc := 579) (v := 3) hx hb dL_law_579 (by decide) ?_
  refine z_iadd (pc := 580) (v := 3) hx hb dL_law_580 (by decide) ?_
  refine z_sld (pc := 581) (v := (xs 3)) hx hb hX hbl hbA hT 3 rfl (by decide) rfl dL_law_581 ?_
  refine lv_aload_n (pc := 582) hx hb dL_law_582 rfl (lv_at hl 3 rfl) ?_
  refine z_eHI (pc := 583) zE_ok hE hx hb hml hown hts hK hA hT lkH_RL_119 ((k842_L_arc l G cy hl0 h0 h1 h2 h6 h7 h8 h9 h10 h11 h12 h13 h14 h15 h16 h17 h18 h19 h20 h21 h22 h23 h24 h25 (xs 2) (xs 3) 2 (gx) (by omega) (by omega) hneg).e) [0, 1, 2, 3] [4, 5, 6, 7] rfl rfl rfl rfl rfl (by decide) rfl hl.1 rfl (Nat.le_of_ble_eq_true rfl) dL_law_583 ⟨Nat.le_of_ble_eq_true rfl, Nat.le_of_ble_eq_true rfl⟩ (fun _ => [(h3, .inr (12, [.int 0, .ref h5, .int 0, .int 0, .int 0, .int (-1), .int 0, .int 0, .ref h26, .ref h4, .ref h27, .ref h28, .int 0, .ref h29, .ref h30, .int 0, .ref h31, .ref h32, .ref h33, .ref h34, .ref h35, .int 0, .ref h36, .ref h37, .ref h38, .int 0, .ref h39, .ref h40, .ref h41, .int 0, .int 0, .ref h42, .ref h43, .ref h44, .int 0, .long 0, .long 0, .ref h45, .ref h46, .ref h47, .ref h48, .ref h49, .ref h50, .ref h51, .ref h52, .ref h53, .ref h54, .int 0, .int 0, .ref h55, .ref h56, .ref h57, .ref h58, .ref h59, .ref h60, .ref h61, .ref h62, .ref h63, .int 0, .int 0, .int 0, .int 0, .long 0, .ref h64, .ref h65, .ref h66, .int 0, .int 0, .long 0])), (h4, .inl (cy 4, 6, .inr (.inr (.inr (.inr (fun i => some (gm i))))))), ((gm 2), .inl (cy 0, 643, .inl (zfil (upd (kc 0) 0 1) 3 43 (-1)))), (h5, .inl (cy 0, 3, .inl (kc 0)))]) (fun _ => rfl) (fun qs1 H locs hT => ?_)
  refine lv_istore (pc := 586) (lv' := [(5, .int 1), (0, .ref b), (1, .ref h0), (2, .ref h3), (3, .ref h6), (4, .int 0)]) hx hb dL_law_586 hl (by decide) rfl (fun ls hl => ?_)
  refine lv_aload_n (pc := 588) hx hb dL_law_588 rfl (lv_at hl 3 rfl) ?_
  refine lv_aload_n (pc := 589) hx hb dL_law_589 rfl (lv_at hl 1 rfl) ?_
  refine lv_iload (pc := 590) hx hb dL_law_590 (lv_at hl 5 rfl) ?_
  refine lv_iconst (pc := 592) (v := 1) hx hb dL_law_592 (by decide) ?_
  refine z_iadd (pc := 593) (v := 1) hx hb dL_law_593 (by decide) ?_
  refine z_sld (pc := 594) (v := 2) hx hb hX hbl hbA hT 1 rfl (by decide) hs1 dL_law_594 ?_
  refine lv_aload_n (pc := 595) hx hb dL_law_595 rfl (lv_at hl 1 rfl) ?_
  refine lv_iload (pc := 596) hx hb dL_law_596 (lv_at hl 5 rfl) ?_
  refine lv_iconst (pc := 598) (v := 2) hx hb dL_law_598 (by decide) ?_
  refine z_iadd (pc := 599) (v := 2) hx hb dL_law_599 (by decide) ?_
  refine z_sld (pc := 600) (v := (xs 2)) hx hb hX hbl hbA hT 2 rfl (by decide) rfl dL_law_600 ?_
  refine lv_aload_n (pc := 601) hx hb dL_law_601 rfl (lv_at hl 1 rfl) ?_
  refine lv_iload (pc := 602) hx hb dL_law_602 (lv_at hl 5 rfl) ?_
  refine lv_iconst (pc := 604) (v := 3) hx hb dL_law_604 (by decide) ?_
  refine z_iadd (pc := 605) (v := 3) hx hb dL_law_605 (by decide) ?_
  refine z_sld (pc := 606) (v := (xs 3)) hx hb hX hbl hbA hT 3 rfl (by decide) rfl dL_law_606 ?_
  refine z_cVI (pc := 607) hx hb hml hown hts hK hA hT lkV_RL_121 (k662_X12_arc l G cy h3 h4 h5 h26 h27 h28 h29 h30 h31 h32 h33 h34 h35 h36 h37 h38 h39 h40 h41 h42 h43 h44 h45 h46 h47 h48 h49 h50 h51 h52 h53 h54 h55 h56 h57 h58 h59 h60 h61 h62 h63 h64 h65 h66 (xs 2) (xs 3) (gm) hneg) [0, 1, 2, 3] [] rfl rfl rfl rfl rfl 0 rfl rfl (by decide) rfl hl.1 rfl (Nat.le_of_ble_eq_true rfl) dL_law_607 ⟨Nat.le_of_ble_eq_true rfl, Nat.le_of_ble_eq_true rfl⟩ (fun _ => [(h3, .inr (12, [.int 1, .ref h5, .int 0, .int 0, .int 0, .int (-1), .int 0, .int 0, .ref h26, .ref h4, .ref h27, .ref h28, .int 0, .ref h29, .ref h30, .int 0, .ref h31, .ref h32, .ref h33, .ref h34, .ref h35, .int 0, .ref h36, .ref h37, .ref h38, .int 0, .ref h39, .ref h40, .ref h41, .int 0, .int 0, .ref h42, .ref h43, .ref h44, .int 0, .long 0, .long 0, .ref h45, .ref h46, .ref h47, .ref h48, .ref h49, .ref h50, .ref h51, .ref h52, .ref h53, .ref h54, .int 0, .int 0, .ref h55, .ref h56, .ref h57, .ref h58, .ref h59, .ref h60, .ref h61, .ref h62, .ref h63, .int 0, .int 0, .int 0, .int 0, .long 0, .ref h64, .ref h65, .ref h66, .int 0, .int 0, .long 0]))]) (fun _ => rfl) (fun qs2 H locs hT => ?_)
  refine lv_istore (pc := 610) (lv' := [(6, .int 0), (5, .int 1), (0, .ref b), (1, .ref h0), (2, .ref h3), (3, .ref h6), (4, .int 0)]) hx hb dL_law_610 hl (by decide) rfl (fun ls hl => ?_)
  refine lv_aload_n (pc := 612) hx hb dL_law_612 rfl (lv_at hl 4 rfl) ?_
  refine z_cVI (pc := 613) hx hb hml hown hts hK hA hT lkV_RL_96 (k1051_X12_thrown l G cy h3 h5 h26 h4 h27 h28 h29 h30 h31 h32 h33 h34 h35 h36 h37 h38 h39 h40 h41 h42 h43 h44 h45 h46 h47 h48 h49 h50 h51 h52 h53 h54 h55 h56 h57 h58 h59 h60 h61 h62 h63 h64 h65 h66) [0] [] rfl rfl rfl rfl rfl 0 rfl rfl (by decide) rfl hl.1 rfl (Nat.le_of_ble_eq_true rfl) dL_law_613 ⟨Nat.le_of_ble_eq_true rfl, Nat.le_of_ble_eq_true rfl⟩ (fun _ => [(h3, .inr (12, [.int 1, .ref h5, .int 0, .int 0, .int 0, .int (-1), .int 0, .int 0, .ref h26, .ref h4, .ref h27, .ref h28, .int 0, .ref h29, .ref h30, .int 0, .ref h31, .ref h32, .ref h33, .ref h34, .ref h35, .int 0, .ref h36, .ref h37, .ref h38, .int 0, .ref h39, .ref h40, .ref h41, .int 0, .int 0, .ref h42, .ref h43, .ref h44, .int 0, .long 0, .long 0, .ref h45, .ref h46, .ref h47, .ref h48, .ref h49, .ref h50, .ref h51, .ref h52, .ref h53, .ref h54, .int 0, .int 0, .ref h55, .ref h56, .ref h57, .ref h58, .ref h59, .ref h60, .ref h61, .ref h62, .ref h63, .int 0, .int 0, .int 0, .int 0, .long 0, .ref h64, .ref h65, .ref h66, .int 0, .int 0, .long 0]))]) (fun _ => rfl) (fun qs3 H locs hT => ?_)
  refine lv_iload (pc := 616) hx hb dL_law_616 (lv_at hl 1 rfl) ?_
  refine zb_icmp_eq_t (pc := 618) (tgt := 623) hx hb dL_law_618 (by decide) (by decide) ?_
  refine lv_iload (pc := 623) hx hb dL_law_623 (lv_at hl 1 rfl) ?_
  refine zb_if_ne_t (pc := 625) (tgt := 640) hx hb dL_law_625 (by decide) (by decide) ?_
  refine lv_goto (pc := 640) (tgt := 1719) hx hb dL_law_640 (by decide) ?_
  exact q_end hx hb hr hlk hX hbl hT (lv_sub hl [2, 6] rfl) (Nat.le_of_ble_eq_true rfl) (Nat.le_of_ble_eq_true rfl)
set_option maxHeartbeats 4000000 in
set_option maxRecDepth 100000 in
theorem q_arc_1_neg_3 {p : Program} {l : Launch} {e : Env} {s : State} {m : MethodId} {below : List Frame} {meth : Method} {c : Code} {H : Heap} {locs : List Loc} {ls : Array Slot} {G : va_G} {cy : Nat → ClassId} {b : Nat} {xs : Nat → Int32} (C : zC l G cy p s m meth c b 6 xs) (h0 h1 h2 h3 h4 h5 h6 h7 h8 h9 h10 h11 h12 h13 h14 h15 h16 h17 h18 h19 h20 h21 h22 h23 h24 h25 h26 h27 h28 h29 h30 h31 h32 h33 h34 h35 h36 h37 h38 h39 h40 h41 h42 h43 h44 h45 h46 h47 h48 h49 h50 h51 h52 h53 h54 h55 h56 h57 h58 h59 h60 h61 h62 h63 h64 h65 h66 : Nat) (gx : Nat → Nat) (gm : Nat → Nat) (hs1 : xs 1 = 3) (hneg : ((xs 2) : Int32) < 0) (hT : zT G (fun q => s.heap.size ≤ q) s.heap H locs [(h0, .inr (11, [.ref h1, .ref h7, .ref h8, .ref h9, .ref h10, .ref h11, .ref h12, .ref h13, .ref h14, .ref h15, .ref h2, .int (-1), .int (-1), .int (-1), .int (-1)])), (h1, .inl (cy 3, 6, .inr (.inr (.inr (.inr (fun i => some (gx i))))))), ((gx 3), .inr (3, [.int 1, .int 0, .int 0, .int 0, .ref h16, .ref h17, .ref h18, .ref h19, .ref h20, .ref h21, .ref h22, .ref h23, .ref h24, .ref h25])), (h2, .inl (cy 0, 3, .inl (kc 0))), (h3, .inr (12, [.int 0, .ref h5, .int 0, .int 0, .int 0, .int (-1), .int 0, .int 0, .ref h26, .ref h4, .ref h27, .ref h28, .int 0, .ref h29, .ref h30, .int 0, .ref h31, .ref h32, .ref h33, .ref h34, .ref h35, .int 0, .ref h36, .ref h37, .ref h38, .int 0, .ref h39, .ref h40, .ref h41, .int 0, .int 0, .ref h42, .ref h43, .ref h44, .int 0, .long 0, .long 0, .ref h45, .ref h46, .ref h47, .ref h48, .ref h49, .ref h50, .ref h51, .ref h52, .ref h53, .ref h54, .int 0, .int 0, .ref h55, .ref h56, .ref h57, .ref h58, .ref h59, .ref h60, .ref h61, .ref h62, .ref h63, .int 0, .int 0, .int 0, .int 0, .long 0, .ref h64, .ref h65, .ref h66, .int 0, .int 0, .long 0])), (h4, .inl (cy 4, 6, .inr (.inr (.inr (.inr (fun i => some (gm i))))))), ((gm 3), .inl (cy 0, 643, .inl (zfil (upd (kc 0) 0 1) 3 43 (-1)))), (h5, .inl (cy 0, 3, .inl (kc 0)))]) (hl : lv_has ls 8 [(0, .ref b), (1, .ref h0), (2, .ref h3), (3, .ref h6), (4, .int 0)]) : W p l e (zR 1000 600002 7302232) s m #[Value.ref b] below meth c H locs 476 284354 (lw_Z below #[Value.ref b] s) (F0 m 563 ls []) := by
  obtain ⟨hl0, hx, hb, hr, hml, hown, hts, hX, hbl, hlk, hK, hE, q1, v1, q2, v2, hS⟩ := C
  have hA : ∀ q : Nat, s.heap.size ≤ q → (fun q => s.heap.size ≤ q) q := fun _ h => h
  have hbA : ¬ (fun q => s.heap.size ≤ q) b := Nat.not_le.mpr hbl
  refine lv_aload_n (pc := 563) hx hb dL_law_563 rfl (lv_at hl 1 rfl) ?_
  refine lv_aload_n (pc := 564) hx hb dL_law_564 rfl (lv_at hl 0 rfl) ?_
  refine lv_iload (pc := 565) hx hb dL_law_565 (lv_at hl 4 rfl) ?_
  refine lv_iconst (pc := 567) (v := 1) hx hb dL_law_567 (by decide) ?_
  refine z_iadd (pc := 568) (v := 1) hx hb dL_law_568 (by decide) ?_
  refine z_sld (pc := 569) (v := 3) hx hb hX hbl hbA hT 1 rfl (by decide) hs1 dL_law_569 ?_
  refine lv_aload_n (pc := 570) hx hb dL_law_570 rfl (lv_at hl 0 rfl) ?_
  refine lv_iload (pc := 571) hx hb dL_law_571 (lv_at hl 4 rfl) ?_
  refine lv_iconst (pc := 573) (v := 2) hx hb dL_law_573 (by decide) ?_
  refine z_iadd (pc := 574) (v := 2) hx hb dL_law_574 (by decide) ?_
  refine z_sld (pc := 575) (v := (xs 2)) hx hb hX hbl hbA hT 2 rfl (by decide) rfl dL_law_575 ?_
  refine lv_aload_n (pc := 576) hx hb dL_law_576 rfl (lv_at hl 0 rfl) ?_
  refine lv_iload (pc := 577) hx hb dL_law_577 (lv_at hl 4 rfl) ?_
  refine lv_iconst (pc := 579) (v := 3) hx hb dL_law_579 (by decide) ?_
  refine z_iadd (pc := 580) (v := 3) hx hb dL_law_580 (by decide) ?_
  refine z_sld (pc := 581) (v := (xs 3)) hx hb hX hbl hbA hT 3 rfl (by decide) rfl dL_law_581 ?_
  refine lv_aload_n (pc := 582) hx hb dL_law_582 rfl (lv_at hl 3 rfl) ?_
  refine z_eHI (pc := 583) zE_ok hE hx hb hml hown hts hK hA hT lkH_RL_119 ((k842_L_arc l G cy hl0 h0 h1 h2 h6 h7 h8 h9 h10 h11 h12 h13 h14 h15 h16 h17 h18 h19 h20 h21 h22 h23 h24 h25 (xs 2) (xs 3) 3 (gx) (by omega) (by omega) hneg).e) [0, 1, 2, 3] [4, 5, 6, 7] rfl rfl rfl rfl rfl (by decide) rfl hl.1 rfl (Nat.le_of_ble_eq_true rfl) dL_law_583 ⟨Nat.le_of_ble_eq_true rfl, Nat.le_of_ble_eq_true rfl⟩ (fun _ => [(h3, .inr (12, [.int 0, .ref h5, .int 0, .int 0, .int 0, .int (-1), .int 0, .int 0, .ref h26, .ref h4, .ref h27, .ref h28, .int 0, .ref h29, .ref h30, .int 0, .ref h31, .ref h32, .ref h33, .ref h34, .ref h35, .int 0, .ref h36, .ref h37, .ref h38, .int 0, .ref h39, .ref h40, .ref h41, .int 0, .int 0, .ref h42, .ref h43, .ref h44, .int 0, .long 0, .long 0, .ref h45, .ref h46, .ref h47, .ref h48, .ref h49, .ref h50, .ref h51, .ref h52, .ref h53, .ref h54, .int 0, .int 0, .ref h55, .ref h56, .ref h57, .ref h58, .ref h59, .ref h60, .ref h61, .ref h62, .ref h63, .int 0, .int 0, .int 0, .int 0, .long 0, .ref h64, .ref h65, .ref h66, .int 0, .int 0, .long 0])), (h4, .inl (cy 4, 6, .inr (.inr (.inr (.inr (fun i => some (gm i))))))), ((gm 3), .inl (cy 0, 643, .inl (zfil (upd (kc 0) 0 1) 3 43 (-1)))), (h5, .inl (cy 0, 3, .inl (kc 0)))]) (fun _ => rfl) (fun qs1 H locs hT => ?_)
  refine lv_istore (pc := 586) (lv' := [(5, .int 1), (0, .ref b), (1, .ref h0), (2, .ref h3), (3, .ref h6), (4, .int 0)]) hx hb dL_law_586 hl (by decide) rfl (fun ls hl => ?_)
  refine lv_aload_n (pc := 588) hx hb dL_law_588 rfl (lv_at hl 3 rfl) ?_
  refine lv_aload_n (pc := 589) hx hb dL_law_589 rfl (lv_at hl 1 rfl) ?_
  refine lv_iload (pc := 590) hx hb dL_law_590 (lv_at hl 5 rfl) ?_
  refine lv_iconst (pc := 592) (v := 1) hx hb dL_law_592 (by decide) ?_
  refine z_iadd (pc := 593) (v := 1) hx hb dL_law_593 (by decide) ?_
  refine z_sld (pc := 594) (v := 3) hx hb hX hbl hbA hT 1 rfl (by decide) hs1 dL_law_594 ?_
  refine lv_aload_n (pc := 595) hx hb dL_law_595 rfl (lv_at hl 1 rfl) ?_
  refine lv_iload (pc := 596) hx hb dL_law_596 (lv_at hl 5 rfl) ?_
  refine lv_iconst (pc := 598) (v := 2) hx hb dL_law_598 (by decide) ?_
  refine z_iadd (pc := 599) (v := 2) hx hb dL_law_599 (by decide) ?_
  refine z_sld (pc := 600) (v := (xs 2)) hx hb hX hbl hbA hT 2 rfl (by decide) rfl dL_law_600 ?_
  refine lv_aload_n (pc := 601) hx hb dL_law_601 rfl (lv_at hl 1 rfl) ?_
  refine lv_iload (pc := 602) hx hb dL_law_602 (lv_at hl 5 rfl) ?_
  refine lv_iconst (pc := 604) (v := 3) hx hb dL_law_604 (by decide) ?_
  refine z_iadd (pc := 605) (v := 3) hx hb dL_law_605 (by decide) ?_
  refine z_sld (pc := 606) (v := (xs 3)) hx hb hX hbl hbA hT 3 rfl (by decide) rfl dL_law_606 ?_
  refine z_cVI (pc := 607) hx hb hml hown hts hK hA hT lkV_RL_121 (k667_X12_arc l G cy h3 h4 h5 h26 h27 h28 h29 h30 h31 h32 h33 h34 h35 h36 h37 h38 h39 h40 h41 h42 h43 h44 h45 h46 h47 h48 h49 h50 h51 h52 h53 h54 h55 h56 h57 h58 h59 h60 h61 h62 h63 h64 h65 h66 (xs 2) (xs 3) (gm) hneg) [0, 1, 2, 3] [] rfl rfl rfl rfl rfl 0 rfl rfl (by decide) rfl hl.1 rfl (Nat.le_of_ble_eq_true rfl) dL_law_607 ⟨Nat.le_of_ble_eq_true rfl, Nat.le_of_ble_eq_true rfl⟩ (fun _ => [(h3, .inr (12, [.int 1, .ref h5, .int 0, .int 0, .int 0, .int (-1), .int 0, .int 0, .ref h26, .ref h4, .ref h27, .ref h28, .int 0, .ref h29, .ref h30, .int 0, .ref h31, .ref h32, .ref h33, .ref h34, .ref h35, .int 0, .ref h36, .ref h37, .ref h38, .int 0, .ref h39, .ref h40, .ref h41, .int 0, .int 0, .ref h42, .ref h43, .ref h44, .int 0, .long 0, .long 0, .ref h45, .ref h46, .ref h47, .ref h48, .ref h49, .ref h50, .ref h51, .ref h52, .ref h53, .ref h54, .int 0, .int 0, .ref h55, .ref h56, .ref h57, .ref h58, .ref h59, .ref h60, .ref h61, .ref h62, .ref h63, .int 0, .int 0, .int 0, .int 0, .long 0, .ref h64, .ref h65, .ref h66, .int 0, .int 0, .long 0]))]) (fun _ => rfl) (fun qs2 H locs hT => ?_)
  refine lv_istore (pc := 610) (lv' := [(6, .int 0), (5, .int 1), (0, .ref b), (1, .ref h0), (2, .ref h3), (3, .ref h6), (4, .int 0)]) hx hb dL_law_610 hl (by decide) rfl (fun ls hl => ?_)
  refine lv_aload_n (pc := 612) hx hb dL_law_612 rfl (lv_at hl 4 rfl) ?_
  refine z_cVI (pc := 613) hx hb hml hown hts hK hA hT lkV_RL_96 (k1051_X12_thrown l G cy h3 h5 h26 h4 h27 h28 h29 h30 h31 h32 h33 h34 h35 h36 h37 h38 h39 h40 h41 h42 h43 h44 h45 h46 h47 h48 h49 h50 h51 h52 h53 h54 h55 h56 h57 h58 h59 h60 h61 h62 h63 h64 h65 h66) [0] [] rfl rfl rfl rfl rfl 0 rfl rfl (by decide) rfl hl.1 rfl (Nat.le_of_ble_eq_true rfl) dL_law_613 ⟨Nat.le_of_ble_eq_true rfl, Nat.le_of_ble_eq_true rfl⟩ (fun _ => [(h3, .inr (12, [.int 1, .ref h5, .int 0, .int 0, .int 0, .int (-1), .int 0, .int 0, .ref h26, .ref h4, .ref h27, .ref h28, .int 0, .ref h29, .ref h30, .int 0, .ref h31, .ref h32, .ref h33, .ref h34, .ref h35, .int 0, .ref h36, .ref h37, .ref h38, .int 0, .ref h39, .ref h40, .ref h41, .int 0, .int 0, .ref h42, .ref h43, .ref h44, .int 0, .long 0, .long 0, .ref h45, .ref h46, .ref h47, .ref h48, .ref h49, .ref h50, .ref h51, .ref h52, .ref h53, .ref h54, .int 0, .int 0, .ref h55, .ref h56, .ref h57, .ref h58, .ref h59, .ref h60, .ref h61, .ref h62, .ref h63, .int 0, .int 0, .int 0, .int 0, .long 0, .ref h64, .ref h65, .ref h66, .int 0, .int 0, .long 0]))]) (fun _ => rfl) (fun qs3 H locs hT => ?_)
  refine lv_iload (pc := 616) hx hb dL_law_616 (lv_at hl 1 rfl) ?_
  refine zb_icmp_eq_t (pc := 618) (tgt := 623) hx hb dL_law_618 (by decide) (by decide) ?_
  refine lv_iload (pc := 623) hx hb dL_law_623 (lv_at hl 1 rfl) ?_
  refine zb_if_ne_t (pc := 625) (tgt := 640) hx hb dL_law_625 (by decide) (by decide) ?_
  refine lv_goto (pc := 640) (tgt := 1719) hx hb dL_law_640 (by decide) ?_
  exact q_end hx hb hr hlk hX hbl hT (lv_sub hl [2, 6] rfl) (Nat.le_of_ble_eq_true rfl) (Nat.le_of_ble_eq_true rfl)
set_option maxHeartbeats 4000000 in
set_option maxRecDepth 100000 in
theorem q_arc_1_neg_4 {p : Program} {l : Launch} {e : Env} {s : State} {m : MethodId} {below : List Frame} {meth : Method} {c : Code} {H : Heap} {locs : List Loc} {ls : Array Slot} {G : va_G} {cy : Nat → ClassId} {b : Nat} {xs : Nat → Int32} (C : zC l G cy p s m meth c b 6 xs) (h0 h1 h2 h3 h4 h5 h6 h7 h8 h9 h10 h11 h12 h13 h14 h15 h16 h17 h18 h19 h20 h21 h22 h23 h24 h25 h26 h27 h28 h29 h30 h31 h32 h33 h34 h35 h36 h37 h38 h39 h40 h41 h42 h43 h44 h45 h46 h47 h48 h49 h50 h51 h52 h53 h54 h55 h56 h57 h58 h59 h60 h61 h62 h63 h64 h65 h66 : Nat) (gx : Nat → Nat) (gm : Nat → Nat) (hs1 : xs 1 = 4) (hneg : ((xs 2) : Int32) < 0) (hT : zT G (fun q => s.heap.size ≤ q) s.heap H locs [(h0, .inr (11, [.ref h1, .ref h7, .ref h8, .ref h9, .ref h10, .ref h11, .ref h12, .ref h13, .ref h14, .ref h15, .ref h2, .int (-1), .int (-1), .int (-1), .int (-1)])), (h1, .inl (cy 3, 6, .inr (.inr (.inr (.inr (fun i => some (gx i))))))), ((gx 4), .inr (3, [.int 1, .int 0, .int 0, .int 0, .ref h16, .ref h17, .ref h18, .ref h19, .ref h20, .ref h21, .ref h22, .ref h23, .ref h24, .ref h25])), (h2, .inl (cy 0, 3, .inl (kc 0))), (h3, .inr (12, [.int 0, .ref h5, .int 0, .int 0, .int 0, .int (-1), .int 0, .int 0, .ref h26, .ref h4, .ref h27, .ref h28, .int 0, .ref h29, .ref h30, .int 0, .ref h31, .ref h32, .ref h33, .ref h34, .ref h35, .int 0, .ref h36, .ref h37, .ref h38, .int 0, .ref h39, .ref h40, .ref h41, .int 0, .int 0, .ref h42, .ref h43, .ref h44, .int 0, .long 0, .long 0, .ref h45, .ref h46, .ref h47, .ref h48, .ref h49, .ref h50, .ref h51, .ref h52, .ref h53, .ref h54, .int 0, .int 0, .ref h55, .ref h56, .ref h57, .ref h58, .ref h59, .ref h60, .ref h61, .ref h62, .ref h63, .int 0, .int 0, .int 0, .int 0, .long 0, .ref h64, .ref h65, .ref h66, .int 0, .int 0, .long 0])), (h4, .inl (cy 4, 6, .inr (.inr (.inr (.inr (fun i => some (gm i))))))), ((gm 4), .inl (cy 0, 643, .inl (zfil (upd (kc 0) 0 1) 3 43 (-1)))), (h5, .inl (cy 0, 3, .inl (kc 0)))]) (hl : lv_has ls 8 [(0, .ref b), (1, .ref h0), (2, .ref h3), (3, .ref h6), (4, .int 0)]) : W p l e (zR 1000 600002 7302232) s m #[Value.ref b] below meth c H locs 476 284354 (lw_Z below #[Value.ref b] s) (F0 m 563 ls []) := by
  obtain ⟨hl0, hx, hb, hr, hml, hown, hts, hX, hbl, hlk, hK, hE, q1, v1, q2, v2, hS⟩ := C
  have hA : ∀ q : Nat, s.heap.size ≤ q → (fun q => s.heap.size ≤ q) q := fun _ h => h
  have hbA : ¬ (fun q => s.heap.size ≤ q) b := Nat.not_le.mpr hbl
  refine lv_aload_n (pc := 563) hx hb dL_law_563 rfl (lv_at hl 1 rfl) ?_
  refine lv_aload_n (pc := 564) hx hb dL_law_564 rfl (lv_at hl 0 rfl) ?_
  refine lv_iload (pc := 565) hx hb dL_law_565 (lv_at hl 4 rfl) ?_
  refine lv_iconst (pc := 567) (v := 1) hx hb dL_law_567 (by decide) ?_
  refine z_iadd (pc := 568) (v := 1) hx hb dL_law_568 (by decide) ?_
  refine z_sld (pc := 569) (v := 4) hx hb hX hbl hbA hT 1 rfl (by decide) hs1 dL_law_569 ?_
  refine lv_aload_n (pc := 570) hx hb dL_law_570 rfl (lv_at hl 0 rfl) ?_
  refine lv_iload (pc := 571) hx hb dL_law_571 (lv_at hl 4 rfl) ?_
  refine lv_iconst (pc := 573) (v := 2) hx hb dL_law_573 (by decide) ?_
  refine z_iadd (pc := 574) (v := 2) hx hb dL_law_574 (by decide) ?_
  refine z_sld (pc := 575) (v := (xs 2)) hx hb hX hbl hbA hT 2 rfl (by decide) rfl dL_law_575 ?_
  refine lv_aload_n (pc := 576) hx hb dL_law_576 rfl (lv_at hl 0 rfl) ?_
  refine lv_iload (pc := 577) hx hb dL_law_577 (lv_at hl 4 rfl) ?_
  refine lv_iconst (pc := 579) (v := 3) hx hb dL_law_579 (by decide) ?_
  refine z_iadd (pc := 580) (v := 3) hx hb dL_law_580 (by decide) ?_
  refine z_sld (pc := 581) (v := (xs 3)) hx hb hX hbl hbA hT 3 rfl (by decide) rfl dL_law_581 ?_
  refine lv_aload_n (pc := 582) hx hb dL_law_582 rfl (lv_at hl 3 rfl) ?_
  refine z_eHI (pc := 583) zE_ok hE hx hb hml hown hts hK hA hT lkH_RL_119 ((k842_L_arc l G cy hl0 h0 h1 h2 h6 h7 h8 h9 h10 h11 h12 h13 h14 h15 h16 h17 h18 h19 h20 h21 h22 h23 h24 h25 (xs 2) (xs 3) 4 (gx) (by omega) (by omega) hneg).e) [0, 1, 2, 3] [4, 5, 6, 7] rfl rfl rfl rfl rfl (by decide) rfl hl.1 rfl (Nat.le_of_ble_eq_true rfl) dL_law_583 ⟨Nat.le_of_ble_eq_true rfl, Nat.le_of_ble_eq_true rfl⟩ (fun _ => [(h3, .inr (12, [.int 0, .ref h5, .int 0, .int 0, .int 0, .int (-1), .int 0, .int 0, .ref h26, .ref h4, .ref h27, .ref h28, .int 0, .ref h29, .ref h30, .int 0, .ref h31, .ref h32, .ref h33, .ref h34, .ref h35, .int 0, .ref h36, .ref h37, .ref h38, .int 0, .ref h39, .ref h40, .ref h41, .int 0, .int 0, .ref h42, .ref h43, .ref h44, .int 0, .long 0, .long 0, .ref h45, .ref h46, .ref h47, .ref h48, .ref h49, .ref h50, .ref h51, .ref h52, .ref h53, .ref h54, .int 0, .int 0, .ref h55, .ref h56, .ref h57, .ref h58, .ref h59, .ref h60, .ref h61, .ref h62, .ref h63, .int 0, .int 0, .int 0, .int 0, .long 0, .ref h64, .ref h65, .ref h66, .int 0, .int 0, .long 0])), (h4, .inl (cy 4, 6, .inr (.inr (.inr (.inr (fun i => some (gm i))))))), ((gm 4), .inl (cy 0, 643, .inl (zfil (upd (kc 0) 0 1) 3 43 (-1)))), (h5, .inl (cy 0, 3, .inl (kc 0)))]) (fun _ => rfl) (fun qs1 H locs hT => ?_)
  refine lv_istore (pc := 586) (lv' := [(5, .int 1), (0, .ref b), (1, .ref h0), (2, .ref h3), (3, .ref h6), (4, .int 0)]) hx hb dL_law_586 hl (by decide) rfl (fun ls hl => ?_)
  refine lv_aload_n (pc := 588) hx hb dL_law_588 rfl (lv_at hl 3 rfl) ?_
  refine lv_aload_n (pc := 589) hx hb dL_law_589 rfl (lv_at hl 1 rfl) ?_
  refine lv_iload (pc := 590) hx hb dL_law_590 (lv_at hl 5 rfl) ?_
  refine lv_iconst (pc := 592) (v := 1) hx hb dL_law_592 (by decide) ?_
  refine z_iadd (pc := 593) (v := 1) hx hb dL_law_593 (by decide) ?_
  refine z_sld (pc := 594) (v := 4) hx hb hX hbl hbA hT 1 rfl (by decide) hs1 dL_law_594 ?_
  refine lv_aload_n (pc := 595) hx hb dL_law_595 rfl (lv_at hl 1 rfl) ?_
  refine lv_iload (pc := 596) hx hb dL_law_596 (lv_at hl 5 rfl) ?_
  refine lv_iconst (pc := 598) (v := 2) hx hb dL_law_598 (by decide) ?_
  refine z_iadd (pc := 599) (v := 2) hx hb dL_law_599 (by decide) ?_
  refine z_sld (pc := 600) (v := (xs 2)) hx hb hX hbl hbA hT 2 rfl (by decide) rfl dL_law_600 ?_
  refine lv_aload_n (pc := 601) hx hb dL_law_601 rfl (lv_at hl 1 rfl) ?_
  refine lv_iload (pc := 602) hx hb dL_law_602 (lv_at hl 5 rfl) ?_
  refine lv_iconst (pc := 604) (v := 3) hx hb dL_law_604 (by decide) ?_
  refine z_iadd (pc := 605) (v := 3) hx hb dL_law_605 (by decide) ?_
  refine z_sld (pc := 606) (v := (xs 3)) hx hb hX hbl hbA hT 3 rfl (by decide) rfl dL_law_606 ?_
  refine z_cVI (pc := 607) hx hb hml hown hts hK hA hT lkV_RL_121 (k672_X12_arc l G cy h3 h4 h5 h26 h27 h28 h29 h30 h31 h32 h33 h34 h35 h36 h37 h38 h39 h40 h41 h42 h43 h44 h45 h46 h47 h48 h49 h50 h51 h52 h53 h54 h55 h56 h57 h58 h59 h60 h61 h62 h63 h64 h65 h66 (xs 2) (xs 3) (gm) hneg) [0, 1, 2, 3] [] rfl rfl rfl rfl rfl 0 rfl rfl (by decide) rfl hl.1 rfl (Nat.le_of_ble_eq_true rfl) dL_law_607 ⟨Nat.le_of_ble_eq_true rfl, Nat.le_of_ble_eq_true rfl⟩ (fun _ => [(h3, .inr (12, [.int 1, .ref h5, .int 0, .int 0, .int 0, .int (-1), .int 0, .int 0, .ref h26, .ref h4, .ref h27, .ref h28, .int 0, .ref h29, .ref h30, .int 0, .ref h31, .ref h32, .ref h33, .ref h34, .ref h35, .int 0, .ref h36, .ref h37, .ref h38, .int 0, .ref h39, .ref h40, .ref h41, .int 0, .int 0, .ref h42, .ref h43, .ref h44, .int 0, .long 0, .long 0, .ref h45, .ref h46, .ref h47, .ref h48, .ref h49, .ref h50, .ref h51, .ref h52, .ref h53, .ref h54, .int 0, .int 0, .ref h55, .ref h56, .ref h57, .ref h58, .ref h59, .ref h60, .ref h61, .ref h62, .ref h63, .int 0, .int 0, .int 0, .int 0, .long 0, .ref h64, .ref h65, .ref h66, .int 0, .int 0, .long 0]))]) (fun _ => rfl) (fun qs2 H locs hT => ?_)
  refine lv_istore (pc := 610) (lv' := [(6, .int 0), (5, .int 1), (0, .ref b), (1, .ref h0), (2, .ref h3), (3, .ref h6), (4, .int 0)]) hx hb dL_law_610 hl (by decide) rfl (fun ls hl => ?_)
  refine lv_aload_n (pc := 612) hx hb dL_law_612 rfl (lv_at hl 4 rfl) ?_
  refine z_cVI (pc := 613) hx hb hml hown hts hK hA hT lkV_RL_96 (k1051_X12_thrown l G cy h3 h5 h26 h4 h27 h28 h29 h30 h31 h32 h33 h34 h35 h36 h37 h38 h39 h40 h41 h42 h43 h44 h45 h46 h47 h48 h49 h50 h51 h52 h53 h54 h55 h56 h57 h58 h59 h60 h61 h62 h63 h64 h65 h66) [0] [] rfl rfl rfl rfl rfl 0 rfl rfl (by decide) rfl hl.1 rfl (Nat.le_of_ble_eq_true rfl) dL_law_613 ⟨Nat.le_of_ble_eq_true rfl, Nat.le_of_ble_eq_true rfl⟩ (fun _ => [(h3, .inr (12, [.int 1, .ref h5, .int 0, .int 0, .int 0, .int (-1), .int 0, .int 0, .ref h26, .ref h4, .ref h27, .ref h28, .int 0, .ref h29, .ref h30, .int 0, .ref h31, .ref h32, .ref h33, .ref h34, .ref h35, .int 0, .ref h36, .ref h37, .ref h38, .int 0, .ref h39, .ref h40, .ref h41, .int 0, .int 0, .ref h42, .ref h43, .ref h44, .int 0, .long 0, .long 0, .ref h45, .ref h46, .ref h47, .ref h48, .ref h49, .ref h50, .ref h51, .ref h52, .ref h53, .ref h54, .int 0, .int 0, .ref h55, .ref h56, .ref h57, .ref h58, .ref h59, .ref h60, .ref h61, .ref h62, .ref h63, .int 0, .int 0, .int 0, .int 0, .long 0, .ref h64, .ref h65, .ref h66, .int 0, .int 0, .long 0]))]) (fun _ => rfl) (fun qs3 H locs hT => ?_)
  refine lv_iload (pc := 616) hx hb dL_law_616 (lv_at hl 1 rfl) ?_
  refine zb_icmp_eq_t (pc := 618) (tgt := 623) hx hb dL_law_618 (by decide) (by decide) ?_
  refine lv_iload (pc := 623) hx hb dL_law_623 (lv_at hl 1 rfl) ?_
  refine zb_if_ne_t (pc := 625) (tgt := 640) hx hb dL_law_625 (by decide) (by decide) ?_
  refine lv_goto (pc := 640) (tgt := 1719) hx hb dL_law_640 (by decide) ?_
  exact q_end hx hb hr hlk hX hbl hT (lv_sub hl [2, 6] rfl) (Nat.le_of_ble_eq_true rfl) (Nat.le_of_ble_eq_true rfl)
set_option maxHeartbeats 4000000 in
set_option maxRecDepth 100000 in
theorem q_arc_1_neg_5 {p : Program} {l : Launch} {e : Env} {s : State} {m : MethodId} {below : List Frame} {meth : Method} {c : Code} {H : Heap} {locs : List Loc} {ls : Array Slot} {G : va_G} {cy : Nat → ClassId} {b : Nat} {xs : Nat → Int32} (C : zC l G cy p s m meth c b 6 xs) (h0 h1 h2 h3 h4 h5 h6 h7 h8 h9 h10 h11 h12 h13 h14 h15 h16 h17 h18 h19 h20 h21 h22 h23 h24 h25 h26 h27 h28 h29 h30 h31 h32 h33 h34 h35 h36 h37 h38 h39 h40 h41 h42 h43 h44 h45 h46 h47 h48 h49 h50 h51 h52 h53 h54 h55 h56 h57 h58 h59 h60 h61 h62 h63 h64 h65 h66 : Nat) (gx : Nat → Nat) (gm : Nat → Nat) (hs1 : xs 1 = 5) (hneg : ((xs 2) : Int32) < 0) (hT : zT G (fun q => s.heap.size ≤ q) s.heap H locs [(h0, .inr (11, [.ref h1, .ref h7, .ref h8, .ref h9, .ref h10, .ref h11, .ref h12, .ref h13, .ref h14, .ref h15, .ref h2, .int (-1), .int (-1), .int (-1), .int (-1)])), (h1, .inl (cy 3, 6, .inr (.inr (.inr (.inr (fun i => some (gx i))))))), ((gx 5), .inr (3, [.int 1, .int 0, .int 0, .int 0, .ref h16, .ref h17, .ref h18, .ref h19, .ref h20, .ref h21, .ref h22, .ref h23, .ref h24, .ref h25])), (h2, .inl (cy 0, 3, .inl (kc 0))), (h3, .inr (12, [.int 0, .ref h5, .int 0, .int 0, .int 0, .int (-1), .int 0, .int 0, .ref h26, .ref h4, .ref h27, .ref h28, .int 0, .ref h29, .ref h30, .int 0, .ref h31, .ref h32, .ref h33, .ref h34, .ref h35, .int 0, .ref h36, .ref h37, .ref h38, .int 0, .ref h39, .ref h40, .ref h41, .int 0, .int 0, .ref h42, .ref h43, .ref h44, .int 0, .long 0, .long 0, .ref h45, .ref h46, .ref h47, .ref h48, .ref h49, .ref h50, .ref h51, .ref h52, .ref h53, .ref h54, .int 0, .int 0, .ref h55, .ref h56, .ref h57, .ref h58, .ref h59, .ref h60, .ref h61, .ref h62, .ref h63, .int 0, .int 0, .int 0, .int 0, .long 0, .ref h64, .ref h65, .ref h66, .int 0, .int 0, .long 0])), (h4, .inl (cy 4, 6, .inr (.inr (.inr (.inr (fun i => some (gm i))))))), ((gm 5), .inl (cy 0, 643, .inl (zfil (upd (kc 0) 0 1) 3 43 (-1)))), (h5, .inl (cy 0, 3, .inl (kc 0)))]) (hl : lv_has ls 8 [(0, .ref b), (1, .ref h0), (2, .ref h3), (3, .ref h6), (4, .int 0)]) : W p l e (zR 1000 600002 7302232) s m #[Value.ref b] below meth c H locs 476 284354 (lw_Z below #[Value.ref b] s) (F0 m 563 ls []) := by
  obtain ⟨hl0, hx, hb, hr, hml, hown, hts, hX, hbl, hlk, hK, hE, q1, v1, q2, v2, hS⟩ := C
  have hA : ∀ q : Nat, s.heap.size ≤ q → (fun q => s.heap.size ≤ q) q := fun _ h => h
  have hbA : ¬ (fun q => s.heap.size ≤ q) b := Nat.not_le.mpr hbl
  refine lv_aload_n (pc := 563) hx hb dL_law_563 rfl (lv_at hl 1 rfl) ?_
  refine lv_aload_n (pc := 564) hx hb dL_law_564 rfl (lv_at hl 0 rfl) ?_
  refine lv_iload (pc := 565) hx hb dL_law_565 (lv_at hl 4 rfl) ?_
  refine lv_iconst (pc := 567) (v := 1) hx hb dL_law_567 (by decide) ?_
  refine z_iadd (pc := 568) (v := 1) hx hb dL_law_568 (by decide) ?_
  refine z_sld (pc := 569) (v := 5) hx hb hX hbl hbA hT 1 rfl (by decide) hs1 dL_law_569 ?_
  refine lv_aload_n (pc := 570) hx hb dL_law_570 rfl (lv_at hl 0 rfl) ?_
  refine lv_iload (pc := 571) hx hb dL_law_571 (lv_at hl 4 rfl) ?_
  refine lv_iconst (pc := 573) (v := 2) hx hb dL_law_573 (by decide) ?_
  refine z_iadd (pc := 574) (v := 2) hx hb dL_law_574 (by decide) ?_
  refine z_sld (pc := 575) (v := (xs 2)) hx hb hX hbl hbA hT 2 rfl (by decide) rfl dL_law_575 ?_
  refine lv_aload_n (pc := 576) hx hb dL_law_576 rfl (lv_at hl 0 rfl) ?_
  refine lv_iload (pc := 577) hx hb dL_law_577 (lv_at hl 4 rfl) ?_
  refine lv_iconst (pc := 579) (v := 3) hx hb dL_law_579 (by decide) ?_
  refine z_iadd (pc := 580) (v := 3) hx hb dL_law_580 (by decide) ?_
  refine z_sld (pc := 581) (v := (xs 3)) hx hb hX hbl hbA hT 3 rfl (by decide) rfl dL_law_581 ?_
  refine lv_aload_n (pc := 582) hx hb dL_law_582 rfl (lv_at hl 3 rfl) ?_
  refine z_eHI (pc := 583) zE_ok hE hx hb hml hown hts hK hA hT lkH_RL_119 ((k842_L_arc l G cy hl0 h0 h1 h2 h6 h7 h8 h9 h10 h11 h12 h13 h14 h15 h16 h17 h18 h19 h20 h21 h22 h23 h24 h25 (xs 2) (xs 3) 5 (gx) (by omega) (by omega) hneg).e) [0, 1, 2, 3] [4, 5, 6, 7] rfl rfl rfl rfl rfl (by decide) rfl hl.1 rfl (Nat.le_of_ble_eq_true rfl) dL_law_583 ⟨Nat.le_of_ble_eq_true rfl, Nat.le_of_ble_eq_true rfl⟩ (fun _ => [(h3, .inr (12, [.int 0, .ref h5, .int 0, .int 0, .int 0, .int (-1), .int 0, .int 0, .ref h26, .ref h4, .ref h27, .ref h28, .int 0, .ref h29, .ref h30, .int 0, .ref h31, .ref h32, .ref h33, .ref h34, .ref h35, .int 0, .ref h36, .ref h37, .ref h38, .int 0, .ref h39, .ref h40, .ref h41, .int 0, .int 0, .ref h42, .ref h43, .ref h44, .int 0, .long 0, .long 0, .ref h45, .ref h46, .ref h47, .ref h48, .ref h49, .ref h50, .ref h51, .ref h52, .ref h53, .ref h54, .int 0, .int 0, .ref h55, .ref h56, .ref h57, .ref h58, .ref h59, .ref h60, .ref h61, .ref h62, .ref h63, .int 0, .int 0, .int 0, .int 0, .long 0, .ref h64, .ref h65, .ref h66, .int 0, .int 0, .long 0])), (h4, .inl (cy 4, 6, .inr (.inr (.inr (.inr (fun i => some (gm i))))))), ((gm 5), .inl (cy 0, 643, .inl (zfil (upd (kc 0) 0 1) 3 43 (-1)))), (h5, .inl (cy 0, 3, .inl (kc 0)))]) (fun _ => rfl) (fun qs1 H locs hT => ?_)
  refine lv_istore (pc := 586) (lv' := [(5, .int 1), (0, .ref b), (1, .ref h0), (2, .ref h3), (3, .ref h6), (4, .int 0)]) hx hb dL_law_586 hl (by decide) rfl (fun ls hl => ?_)
  refine lv_aload_n (pc := 588) hx hb dL_law_588 rfl (lv_at hl 3 rfl) ?_
  refine lv_aload_n (pc := 589) hx hb dL_law_589 rfl (lv_at hl 1 rfl) ?_
  refine lv_iload (pc := 590) hx hb dL_law_590 (lv_at hl 5 rfl) ?_
  refine lv_iconst (pc := 592) (v := 1) hx hb dL_law_592 (by decide) ?_
  refine z_iadd (pc := 593) (v := 1) hx hb dL_law_593 (by decide) ?_
  refine z_sld (pc := 594) (v := 5) hx hb hX hbl hbA hT 1 rfl (by decide) hs1 dL_law_594 ?_
  refine lv_aload_n (pc := 595) hx hb dL_law_595 rfl (lv_at hl 1 rfl) ?_
  refine lv_iload (pc := 596) hx hb dL_law_596 (lv_at hl 5 rfl) ?_
  refine lv_iconst (pc := 598) (v := 2) hx hb dL_law_598 (by decide) ?_
  refine z_iadd (pc := 599) (v := 2) hx hb dL_law_599 (by decide) ?_
  refine z_sld (pc := 600) (v := (xs 2)) hx hb hX hbl hbA hT 2 rfl (by decide) rfl dL_law_600 ?_
  refine lv_aload_n (pc := 601) hx hb dL_law_601 rfl (lv_at hl 1 rfl) ?_
  refine lv_iload (pc := 602) hx hb dL_law_602 (lv_at hl 5 rfl) ?_
  refine lv_iconst (pc := 604) (v := 3) hx hb dL_law_604 (by decide) ?_
  refine z_iadd (pc := 605) (v := 3) hx hb dL_law_605 (by decide) ?_
  refine z_sld (pc := 606) (v := (xs 3)) hx hb hX hbl hbA hT 3 rfl (by decide) rfl dL_law_606 ?_
  refine z_cVI (pc := 607) hx hb hml hown hts hK hA hT lkV_RL_121 (k677_X12_arc l G cy h3 h4 h5 h26 h27 h28 h29 h30 h31 h32 h33 h34 h35 h36 h37 h38 h39 h40 h41 h42 h43 h44 h45 h46 h47 h48 h49 h50 h51 h52 h53 h54 h55 h56 h57 h58 h59 h60 h61 h62 h63 h64 h65 h66 (xs 2) (xs 3) (gm) hneg) [0, 1, 2, 3] [] rfl rfl rfl rfl rfl 0 rfl rfl (by decide) rfl hl.1 rfl (Nat.le_of_ble_eq_true rfl) dL_law_607 ⟨Nat.le_of_ble_eq_true rfl, Nat.le_of_ble_eq_true rfl⟩ (fun _ => [(h3, .inr (12, [.int 1, .ref h5, .int 0, .int 0, .int 0, .int (-1), .int 0, .int 0, .ref h26, .ref h4, .ref h27, .ref h28, .int 0, .ref h29, .ref h30, .int 0, .ref h31, .ref h32, .ref h33, .ref h34, .ref h35, .int 0, .ref h36, .ref h37, .ref h38, .int 0, .ref h39, .ref h40, .ref h41, .int 0, .int 0, .ref h42, .ref h43, .ref h44, .int 0, .long 0, .long 0, .ref h45, .ref h46, .ref h47, .ref h48, .ref h49, .ref h50, .ref h51, .ref h52, .ref h53, .ref h54, .int 0, .int 0, .ref h55, .ref h56, .ref h57, .ref h58, .ref h59, .ref h60, .ref h61, .ref h62, .ref h63, .int 0, .int 0, .int 0, .int 0, .long 0, .ref h64, .ref h65, .ref h66, .int 0, .int 0, .long 0]))]) (fun _ => rfl) (fun qs2 H locs hT => ?_)
  refine lv_istore (pc := 610) (lv' := [(6, .int 0), (5, .int 1), (0, .ref b), (1, .ref h0), (2, .ref h3), (3, .ref h6), (4, .int 0)]) hx hb dL_law_610 hl (by decide) rfl (fun ls hl => ?_)
  refine lv_aload_n (pc := 612) hx hb dL_law_612 rfl (lv_at hl 4 rfl) ?_
  refine z_cVI (pc := 613) hx hb hml hown hts hK hA hT lkV_RL_96 (k1051_X12_thrown l G cy h3 h5 h26 h4 h27 h28 h29 h30 h31 h32 h33 h34 h35 h36 h37 h38 h39 h40 h41 h42 h43 h44 h45 h46 h47 h48 h49 h50 h51 h52 h53 h54 h55 h56 h57 h58 h59 h60 h61 h62 h63 h64 h65 h66) [0] [] rfl rfl rfl rfl rfl 0 rfl rfl (by decide) rfl hl.1 rfl (Nat.le_of_ble_eq_true rfl) dL_law_613 ⟨Nat.le_of_ble_eq_true rfl, Nat.le_of_ble_eq_true rfl⟩ (fun _ => [(h3, .inr (12, [.int 1, .ref h5, .int 0, .int 0, .int 0, .int (-1), .int 0, .int 0, .ref h26, .ref h4, .ref h27, .ref h28, .int 0, .ref h29, .ref h30, .int 0, .ref h31, .ref h32, .ref h33, .ref h34, .ref h35, .int 0, .ref h36, .ref h37, .ref h38, .int 0, .ref h39, .ref h40, .ref h41, .int 0, .int 0, .ref h42, .ref h43, .ref h44, .int 0, .long 0, .long 0, .ref h45, .ref h46, .ref h47, .ref h48, .ref h49, .ref h50, .ref h51, .ref h52, .ref h53, .ref h54, .int 0, .int 0, .ref h55, .ref h56, .ref h57, .ref h58, .ref h59, .ref h60, .ref h61, .ref h62, .ref h63, .int 0, .int 0, .int 0, .int 0, .long 0, .ref h64, .ref h65, .ref h66, .int 0, .int 0, .long 0]))]) (fun _ => rfl) (fun qs3 H locs hT => ?_)
  refine lv_iload (pc := 616) hx hb dL_law_616 (lv_at hl 1 rfl) ?_
  refine zb_icmp_eq_t (pc := 618) (tgt := 623) hx hb dL_law_618 (by decide) (by decide) ?_
  refine lv_iload (pc := 623) hx hb dL_law_623 (lv_at hl 1 rfl) ?_
  refine zb_if_ne_t (pc := 625) (tgt := 640) hx hb dL_law_625 (by decide) (by decide) ?_
  refine lv_goto (pc := 640) (tgt := 1719) hx hb dL_law_640 (by decide) ?_
  exact q_end hx hb hr hlk hX hbl hT (lv_sub hl [2, 6] rfl) (Nat.le_of_ble_eq_true rfl) (Nat.le_of_ble_eq_true rfl)
set_option maxHeartbeats 4000000 in
set_option maxRecDepth 100000 in
theorem q_arc_1_big_0 {p : Program} {l : Launch} {e : Env} {s : State} {m : MethodId} {below : List Frame} {meth : Method} {c : Code} {H : Heap} {locs : List Loc} {ls : Array Slot} {G : va_G} {cy : Nat → ClassId} {b : Nat} {xs : Nat → Int32} (C : zC l G cy p s m meth c b 6 xs) (h0 h1 h2 h3 h4 h5 h6 h7 h8 h9 h10 h11 h12 h13 h14 h15 h16 h17 h18 h19 h20 h21 h22 h23 h24 h25 h26 h27 h28 h29 h30 h31 h32 h33 h34 h35 h36 h37 h38 h39 h40 h41 h42 h43 h44 h45 h46 h47 h48 h49 h50 h51 h52 h53 h54 h55 h56 h57 h58 h59 h60 h61 h62 h63 h64 h65 h66 : Nat) (gx : Nat → Nat) (gm : Nat → Nat) (hs1 : xs 1 = 0) (hb1 : ¬ ((xs 2) : Int32) < 0) (hb2 : ((-1) : Int32) < (xs 2)) (hT : zT G (fun q => s.heap.size ≤ q) s.heap H locs [(h0, .inr (11, [.ref h1, .ref h7, .ref h8, .ref h9, .ref h10, .ref h11, .ref h12, .ref h13, .ref h14, .ref h15, .ref h2, .int (-1), .int (-1), .int (-1), .int (-1)])), (h1, .inl (cy 3, 6, .inr (.inr (.inr (.inr (fun i => some (gx i))))))), ((gx 0), .inr (3, [.int 1, .int 0, .int 0, .int 0, .ref h16, .ref h17, .ref h18, .ref h19, .ref h20, .ref h21, .ref h22, .ref h23, .ref h24, .ref h25])), (h2, .inl (cy 0, 3, .inl (kc 0))), (h3, .inr (12, [.int 0, .ref h5, .int 0, .int 0, .int 0, .int (-1), .int 0, .int 0, .ref h26, .ref h4, .ref h27, .ref h28, .int 0, .ref h29, .ref h30, .int 0, .ref h31, .ref h32, .ref h33, .ref h34, .ref h35, .int 0, .ref h36, .ref h37, .ref h38, .int 0, .ref h39, .ref h40, .ref h41, .int 0, .int 0, .ref h42, .ref h43, .ref h44, .int 0, .long 0, .long 0, .ref h45, .ref h46, .ref h47, .ref h48, .ref h49, .ref h50, .ref h51, .ref h52, .ref h53, .ref h54, .int 0, .int 0, .ref h55, .ref h56, .ref h57, .ref h58, .ref h59, .ref h60, .ref h61, .ref h62, .ref h63, .int 0, .int 0, .int 0, .int 0, .long 0, .ref h64, .ref h65, .ref h66, .int 0, .int 0, .long 0])), (h4, .inl (cy 4, 6, .inr (.inr (.inr (.inr (fun i => some (gm i))))))), ((gm 0), .inl (cy 0, 643, .inl (zfil (upd (kc 0) 0 1) 3 43 (-1)))), (h5, .inl (cy 0, 3, .inl (kc 0)))]) (hl : lv_has ls 8 [(0, .ref b), (1, .ref h0), (2, .ref h3), (3, .ref h6), (4, .int 0)]) : W p l e (zR 1000 600002 7302232) s m #[Value.ref b] below meth c H locs 476 284354 (lw_Z below #[Value.ref b] s) (F0 m 563 ls []) := by
  obtain ⟨hl0, hx, hb, hr, hml, hown, hts, hX, hbl, hlk, hK, hE, q1, v1, q2, v2, hS⟩ := C
  have hA : ∀ q : Nat, s.heap.size ≤ q → (fun q => s.heap.size ≤ q) q := fun _ h => h
  have hbA : ¬ (fun q => s.heap.size ≤ q) b := Nat.not_le.mpr hbl
  refine lv_aload_n (pc := 563) hx hb dL_law_563 rfl (lv_at hl 1 rfl) ?_
  refine lv_aload_n (pc := 564) hx hb dL_law_564 rfl (lv_at hl 0 rfl) ?_
  refine lv_iload (pc := 565) hx hb dL_law_565 (lv_at hl 4 rfl) ?_
  refine lv_iconst (pc := 567) (v := 1) hx hb dL_law_567 (by decide) ?_
  refine z_iadd (pc := 568) (v := 1) hx hb dL_law_568 (by decide) ?_
  refine z_sld (pc := 569) (v := 0) hx hb hX hbl hbA hT 1 rfl (by decide) hs1 dL_law_569 ?_
  refine lv_aload_n (pc := 570) hx hb dL_law_570 rfl (lv_at hl 0 rfl) ?_
  refine lv_iload (pc := 571) hx hb dL_law_571 (lv_at hl 4 rfl) ?_
  refine lv_iconst (pc := 573) (v := 2) hx hb dL_law_573 (by decide) ?_
  refine z_iadd (pc := 574) (v := 2) hx hb dL_law_574 (by decide) ?_
  refine z_sld (pc := 575) (v := (xs 2)) hx hb hX hbl hbA hT 2 rfl (by decide) rfl dL_law_575 ?_
  refine lv_aload_n (pc := 576) hx hb dL_law_576 rfl (lv_at hl 0 rfl) ?_
  refine lv_iload (pc := 577) hx hb dL_law_577 (lv_at hl 4 rfl) ?_
  refine lv_iconst (pc := 579) (v := 3) hx hb dL_law_579 (by decide) ?_
  refine z_iadd (pc := 580) (v := 3) hx hb dL_law_580 (by decide) ?_
  refine z_sld (pc := 581) (v := (xs 3)) hx hb hX hbl hbA hT 3 rfl (by decide) rfl dL_law_581 ?_
  refine lv_aload_n (pc := 582) hx hb dL_law_582 rfl (lv_at hl 3 rfl) ?_
  refine z_eHI (pc := 583) zE_ok hE hx hb hml hown hts hK hA hT lkH_RL_119 ((k843_L_arc l G cy hl0 h0 h1 h2 h6 h7 h8 h9 h10 h11 h12 h13 h14 h15 h16 h17 h18 h19 h20 h21 h22 h23 h24 h25 (xs 2) (xs 3) 0 (gx) (by omega) (by omega) hb1).e) [0, 1, 2, 3] [4, 5, 6, 7] rfl rfl rfl rfl rfl (by decide) rfl hl.1 rfl (Nat.le_of_ble_eq_true rfl) dL_law_583 ⟨Nat.le_of_ble_eq_true rfl, Nat.le_of_ble_eq_true rfl⟩ (fun _ => [(h3, .inr (12, [.int 0, .ref h5, .int 0, .int 0, .int 0, .int (-1), .int 0, .int 0, .ref h26, .ref h4, .ref h27, .ref h28, .int 0, .ref h29, .ref h30, .int 0, .ref h31, .ref h32, .ref h33, .ref h34, .ref h35, .int 0, .ref h36, .ref h37, .ref h38, .int 0, .ref h39, .ref h40, .ref h41, .int 0, .int 0, .ref h42, .ref h43, .ref h44, .int 0, .long 0, .long 0, .ref h45, .ref h46, .ref h47, .ref h48, .ref h49, .ref h50, .ref h51, .ref h52, .ref h53, .ref h54, .int 0, .int 0, .ref h55, .ref h56, .ref h57, .ref h58, .ref h59, .ref h60, .ref h61, .ref h62, .ref h63, .int 0, .int 0, .int 0, .int 0, .long 0, .ref h64, .ref h65, .ref h66, .int 0, .int 0, .long 0])), (h4, .inl (cy 4, 6, .inr (.inr (.inr (.inr (fun i => some (gm i))))))), ((gm 0), .inl (cy 0, 643, .inl (zfil (upd (kc 0) 0 1) 3 43 (-1)))), (h5, .inl (cy 0, 3, .inl (kc 0)))]) (fun _ => rfl) (fun qs1 H locs hT => ?_)
  refine lv_istore (pc := 586) (lv' := [(5, .int 1), (0, .ref b), (1, .ref h0), (2, .ref h3), (3, .ref h6), (4, .int 0)]) hx hb dL_law_586 hl (by decide) rfl (fun ls hl => ?_)
  refine lv_aload_n (pc := 588) hx hb dL_law_588 rfl (lv_at hl 3 rfl) ?_
  refine lv_aload_n (pc := 589) hx hb dL_law_589 rfl (lv_at hl 1 rfl) ?_
  refine lv_iload (pc := 590) hx hb dL_law_590 (lv_at hl 5 rfl) ?_
  refine lv_iconst (pc := 592) (v := 1) hx hb dL_law_592 (by decide) ?_
  refine z_iadd (pc := 593) (v := 1) hx hb dL_law_593 (by decide) ?_
  refine z_sld (pc := 594) (v := 0) hx hb hX hbl hbA hT 1 rfl (by decide) hs1 dL_law_594 ?_
  refine lv_aload_n (pc := 595) hx hb dL_law_595 rfl (lv_at hl 1 rfl) ?_
  refine lv_iload (pc := 596) hx hb dL_law_596 (lv_at hl 5 rfl) ?_
  refine lv_iconst (pc := 598) (v := 2) hx hb dL_law_598 (by decide) ?_
  refine z_iadd (pc := 599) (v := 2) hx hb dL_law_599 (by decide) ?_
  refine z_sld (pc := 600) (v := (xs 2)) hx hb hX hbl hbA hT 2 rfl (by decide) rfl dL_law_600 ?_
  refine lv_aload_n (pc := 601) hx hb dL_law_601 rfl (lv_at hl 1 rfl) ?_
  refine lv_iload (pc := 602) hx hb dL_law_602 (lv_at hl 5 rfl) ?_
  refine lv_iconst (pc := 604) (v := 3) hx hb dL_law_604 (by decide) ?_
  refine z_iadd (pc := 605) (v := 3) hx hb dL_law_605 (by decide) ?_
  refine z_sld (pc := 606) (v := (xs 3)) hx hb hX hbl hbA hT 3 rfl (by decide) rfl dL_law_606 ?_
  refine z_cVI (pc := 607) hx hb hml hown hts hK hA hT lkV_RL_121 (k679_X12_arc l G cy h3 h4 h5 h26 h27 h28 h29 h30 h31 h32 h33 h34 h35 h36 h37 h38 h39 h40 h41 h42 h43 h44 h45 h46 h47 h48 h49 h50 h51 h52 h53 h54 h55 h56 h57 h58 h59 h60 h61 h62 h63 h64 h65 h66 (xs 2) (xs 3) (gm) hb1 hb2) [0, 1, 2, 3] [] rfl rfl rfl rfl rfl 0 rfl rfl (by decide) rfl hl.1 rfl (Nat.le_of_ble_eq_true rfl) dL_law_607 ⟨Nat.le_of_ble_eq_true rfl, Nat.le_of_ble_eq_true rfl⟩ (fun _ => [(h3, .inr (12, [.int 1, .ref h5, .int 0, .int 0, .int 0, .int (-1), .int 0, .int 0, .ref h26, .ref h4, .ref h27, .ref h28, .int 0, .ref h29, .ref h30, .int 0, .ref h31, .ref h32, .ref h33, .ref h34, .ref h35, .int 0, .ref h36, .ref h37, .ref h38, .int 0, .ref h39, .ref h40, .ref h41, .int 0, .int 0, .ref h42, .ref h43, .ref h44, .int 0, .long 0, .long 0, .ref h45, .ref h46, .ref h47, .ref h48, .ref h49, .ref h50, .ref h51, .ref h52, .ref h53, .ref h54, .int 0, .int 0, .ref h55, .ref h56, .ref h57, .ref h58, .ref h59, .ref h60, .ref h61, .ref h62, .ref h63, .int 0, .int 0, .int 0, .int 0, .long 0, .ref h64, .ref h65, .ref h66, .int 0, .int 0, .long 0]))]) (fun _ => rfl) (fun qs2 H locs hT => ?_)
  refine lv_istore (pc := 610) (lv' := [(6, .int 0), (5, .int 1), (0, .ref b), (1, .ref h0), (2, .ref h3), (3, .ref h6), (4, .int 0)]) hx hb dL_law_610 hl (by decide) rfl (fun ls hl => ?_)
  refine lv_aload_n (pc := 612) hx hb dL_law_612 rfl (lv_at hl 4 rfl) ?_
  refine z_cVI (pc := 613) hx hb hml hown hts hK hA hT lkV_RL_96 (k1051_X12_thrown l G cy h3 h5 h26 h4 h27 h28 h29 h30 h31 h32 h33 h34 h35 h36 h37 h38 h39 h40 h41 h42 h43 h44 h45 h46 h47 h48 h49 h50 h51 h52 h53 h54 h55 h56 h57 h58 h59 h60 h61 h62 h63 h64 h65 h66) [0] [] rfl rfl rfl rfl rfl 0 rfl rfl (by decide) rfl hl.1 rfl (Nat.le_of_ble_eq_true rfl) dL_law_613 ⟨Nat.le_of_ble_eq_true rfl, Nat.le_of_ble_eq_true rfl⟩ (fun _ => [(h3, .inr (12, [.int 1, .ref h5, .int 0, .int 0, .int 0, .int (-1), .int 0, .int 0, .ref h26, .ref h4, .ref h27, .ref h28, .int 0, .ref h29, .ref h30, .int 0, .ref h31, .ref h32, .ref h33, .ref h34, .ref h35, .int 0, .ref h36, .ref h37, .ref h38, .int 0, .ref h39, .ref h40, .ref h41, .int 0, .int 0, .ref h42, .ref h43, .ref h44, .int 0, .long 0, .long 0, .ref h45, .ref h46, .ref h47, .ref h48, .ref h49, .ref h50, .ref h51, .ref h52, .ref h53, .ref h54, .int 0, .int 0, .ref h55, .ref h56, .ref h57, .ref h58, .ref h59, .ref h60, .ref h61, .ref h62, .ref h63, .int 0, .int 0, .int 0, .int 0, .long 0, .ref h64, .ref h65, .ref h66, .int 0, .int 0, .long 0]))]) (fun _ => rfl) (fun qs3 H locs hT => ?_)
  refine lv_iload (pc := 616) hx hb dL_law_616 (lv_at hl 1 rfl) ?_
  refine zb_icmp_eq_t (pc := 618) (tgt := 623) hx hb dL_law_618 (by decide) (by decide) ?_
  refine lv_iload (pc := 623) hx hb dL_law_623 (lv_at hl 1 rfl) ?_
  refine zb_if_ne_t (pc := 625) (tgt := 640) hx hb dL_law_625 (by decide) (by decide) ?_
  refine lv_goto (pc := 640) (tgt := 1719) hx hb dL_law_640 (by decide) ?_
  exact q_end hx hb hr hlk hX hbl hT (lv_sub hl [2, 6] rfl) (Nat.le_of_ble_eq_true rfl) (Nat.le_of_ble_eq_true rfl)
set_option maxHeartbeats 4000000 in
set_option maxRecDepth 100000 in
theorem q_arc_1_big_1 {p : Program} {l : Launch} {e : Env} {s : State} {m : MethodId} {below : List Frame} {meth : Method} {c : Code} {H : Heap} {locs : List Loc} {ls : Array Slot} {G : va_G} {cy : Nat → ClassId} {b : Nat} {xs : Nat → Int32} (C : zC l G cy p s m meth c b 6 xs) (h0 h1 h2 h3 h4 h5 h6 h7 h8 h9 h10 h11 h12 h13 h14 h15 h16 h17 h18 h19 h20 h21 h22 h23 h24 h25 h26 h27 h28 h29 h30 h31 h32 h33 h34 h35 h36 h37 h38 h39 h40 h41 h42 h43 h44 h45 h46 h47 h48 h49 h50 h51 h52 h53 h54 h55 h56 h57 h58 h59 h60 h61 h62 h63 h64 h65 h66 : Nat) (gx : Nat → Nat) (gm : Nat → Nat) (hs1 : xs 1 = 1) (hb1 : ¬ ((xs 2) : Int32) < 0) (hb2 : ((-1) : Int32) < (xs 2)) (hT : zT G (fun q => s.heap.size ≤ q) s.heap H locs [(h0, .inr (11, [.ref h1, .ref h7, .ref h8, .ref h9, .ref h10, .ref h11, .ref h12, .ref h13, .ref h14, .ref h15, .ref h2, .int (-1), .int (-1), .int (-1), .int (-1)])), (h1, .inl (cy 3, 6, .inr (.inr (.inr (.inr (fun i => some (gx i))))))), ((gx 1), .inr (3, [.int 1, .int 0, .int 0, .int 0, .ref h16, .ref h17, .ref h18, .ref h19, .ref h20, .ref h21, .ref h22, .ref h23, .ref h24, .ref h25])), (h2, .inl (cy 0, 3, .inl (kc 0))), (h3, .inr (12, [.int 0, .ref h5, .int 0, .int 0, .int 0, .int (-1), .int 0, .int 0, .ref h26, .ref h4, .ref h27, .ref h28, .int 0, .ref h29, .ref h30, .int 0, .ref h31, .ref h32, .ref h33, .ref h34, .ref h35, .int 0, .ref h36, .ref h37, .ref h38, .int 0, .ref h39, .ref h40, .ref h41, .int 0, .int 0, .ref h42, .ref h43, .ref h44, .int 0, .long 0, .long 0, .ref h45, .ref h46, .ref h47, .ref h48, .ref h49, .ref h50, .ref h51, .ref h52, .ref h53, .ref h54, .int 0, .int 0, .ref h55, .ref h56, .ref h57, .ref h58, .ref h59, .ref h60, .ref h61, .ref h62, .ref h63, .int 0, .int 0, .int 0, .int 0, .long 0, .ref h64, .ref h65, .ref h66, .int 0, .int 0, .long 0])), (h4, .inl (cy 4, 6, .inr (.inr (.inr (.inr (fun i => some (gm i))))))), ((gm 1), .inl (cy 0, 643, .inl (zfil (upd (kc 0) 0 1) 3 43 (-1)))), (h5, .inl (cy 0, 3, .inl (kc 0)))]) (hl : lv_has ls 8 [(0, .ref b), (1, .ref h0), (2, .ref h3), (3, .ref h6), (4, .int 0)]) : W p l e (zR 1000 600002 7302232) s m #[Value.ref b] below meth c H locs 476 284354 (lw_Z below #[Value.ref b] s) (F0 m 563 ls []) := by
  obtain ⟨hl0, hx, hb, hr, hml, hown, hts, hX, hbl, hlk, hK, hE, q1, v1, q2, v2, hS⟩ := C
  have hA : ∀ q : Nat, s.heap.size ≤ q → (fun q => s.heap.size ≤ q) q := fun _ h => h
  have hbA : ¬ (fun q => s.heap.size ≤ q) b := Nat.not_le.mpr hbl
  refine lv_aload_n (pc := 563) hx hb dL_law_563 rfl (lv_at hl 1 rfl) ?_
  refine lv_aload_n (pc := 564) hx hb dL_law_564 rfl (lv_at hl 0 rfl) ?_
  refine lv_iload (pc := 565) hx hb dL_law_565 (lv_at hl 4 rfl) ?_
  refine lv_iconst (pc := 567) (v := 1) hx hb dL_law_567 (by decide) ?_
  refine z_iadd (pc := 568) (v := 1) hx hb dL_law_568 (by decide) ?_
  refine z_sld (pc := 569) (v := 1) hx hb hX hbl hbA hT 1 rfl (by decide) hs1 dL_law_569 ?_
  refine lv_aload_n (pc := 570) hx hb dL_law_570 rfl (lv_at hl 0 rfl) ?_
  refine lv_iload (pc := 571) hx hb dL_law_571 (lv_at hl 4 rfl) ?_
  refine lv_iconst (pc := 573) (v := 2) hx hb dL_law_573 (by decide) ?_
  refine z_iadd (pc := 574) (v := 2) hx hb dL_law_574 (by decide) ?_
  refine z_sld (pc := 575) (v := (xs 2)) hx hb hX hbl hbA hT 2 rfl (by decide) rfl dL_law_575 ?_
  refine lv_aload_n (pc := 576) hx hb dL_law_576 rfl (lv_at hl 0 rfl) ?_
  refine lv_iload (pc := 577) hx hb dL_law_577 (lv_at hl 4 rfl) ?_
  refine lv_iconst (pc := 579) (v := 3) hx hb dL_law_579 (by decide) ?_
  refine z_iadd (pc := 580) (v := 3) hx hb dL_law_580 (by decide) ?_
  refine z_sld (pc := 581) (v := (xs 3)) hx hb hX hbl hbA hT 3 rfl (by decide) rfl dL_law_581 ?_
  refine lv_aload_n (pc := 582) hx hb dL_law_582 rfl (lv_at hl 3 rfl) ?_
  refine z_eHI (pc := 583) zE_ok hE hx hb hml hown hts hK hA hT lkH_RL_119 ((k843_L_arc l G cy hl0 h0 h1 h2 h6 h7 h8 h9 h10 h11 h12 h13 h14 h15 h16 h17 h18 h19 h20 h21 h22 h23 h24 h25 (xs 2) (xs 3) 1 (gx) (by omega) (by omega) hb1).e) [0, 1, 2, 3] [4, 5, 6, 7] rfl rfl rfl rfl rfl (by decide) rfl hl.1 rfl (Nat.le_of_ble_eq_true rfl) dL_law_583 ⟨Nat.le_of_ble_eq_true rfl, Nat.le_of_ble_eq_true rfl⟩ (fun _ => [(h3, .inr (12, [.int 0, .ref h5, .int 0, .int 0, .int 0, .int (-1), .int 0, .int 0, .ref h26, .ref h4, .ref h27, .ref h28, .int 0, .ref h29, .ref h30, .int 0, .ref h31, .ref h32, .ref h33, .ref h34, .ref h35, .int 0, .ref h36, .ref h37, .ref h38, .int 0, .ref h39, .ref h40, .ref h41, .int 0, .int 0, .ref h42, .ref h43, .ref h44, .int 0, .long 0, .long 0, .ref h45, .ref h46, .ref h47, .ref h48, .ref h49, .ref h50, .ref h51, .ref h52, .ref h53, .ref h54, .int 0, .int 0, .ref h55, .ref h56, .ref h57, .ref h58, .ref h59, .ref h60, .ref h61, .ref h62, .ref h63, .int 0, .int 0, .int 0, .int 0, .long 0, .ref h64, .ref h65, .ref h66, .int 0, .int 0, .long 0])), (h4, .inl (cy 4, 6, .inr (.inr (.inr (.inr (fun i => some (gm i))))))), ((gm 1), .inl (cy 0, 643, .inl (zfil (upd (kc 0) 0 1) 3 43 (-1)))), (h5, .inl (cy 0, 3, .inl (kc 0)))]) (fun _ => rfl) (fun qs1 H locs hT => ?_)
  refine lv_istore (pc := 586) (lv' := [(5, .int 1), (0, .ref b), (1, .ref h0), (2, .ref h3), (3, .ref h6), (4, .int 0)]) hx hb dL_law_586 hl (by decide) rfl (fun ls hl => ?_)
  refine lv_aload_n (pc := 588) hx hb dL_law_588 rfl (lv_at hl 3 rfl) ?_
  refine lv_aload_n (pc := 589) hx hb dL_law_589 rfl (lv_at hl 1 rfl) ?_
  refine lv_iload (pc := 590) hx hb dL_law_590 (lv_at hl 5 rfl) ?_
  refine lv_iconst (pc := 592) (v := 1) hx hb dL_law_592 (by decide) ?_
  refine z_iadd (pc := 593) (v := 1) hx hb dL_law_593 (by decide) ?_
  refine z_sld (pc := 594) (v := 1) hx hb hX hbl hbA hT 1 rfl (by decide) hs1 dL_law_594 ?_
  refine lv_aload_n (pc := 595) hx hb dL_law_595 rfl (lv_at hl 1 rfl) ?_
  refine lv_iload (pc := 596) hx hb dL_law_596 (lv_at hl 5 rfl) ?_
  refine lv_iconst (pc := 598) (v := 2) hx hb dL_law_598 (by decide) ?_
  refine z_iadd (pc := 599) (v := 2) hx hb dL_law_599 (by decide) ?_
  refine z_sld (pc := 600) (v := (xs 2)) hx hb hX hbl hbA hT 2 rfl (by decide) rfl dL_law_600 ?_
  refine lv_aload_n (pc := 601) hx hb dL_law_601 rfl (lv_at hl 1 rfl) ?_
  refine lv_iload (pc := 602) hx hb dL_law_602 (lv_at hl 5 rfl) ?_
  refine lv_iconst (pc := 604) (v := 3) hx hb dL_law_604 (by decide) ?_
  refine z_iadd (pc := 605) (v := 3) hx hb dL_law_605 (by decide) ?_
  refine z_sld (pc := 606) (v := (xs 3)) hx hb hX hbl hbA hT 3 rfl (by decide) rfl dL_law_606 ?_
  refine z_cVI (pc := 607) hx hb hml hown hts hK hA hT lkV_RL_121 (k680_X12_arc l G cy h3 h4 h5 h26 h27 h28 h29 h30 h31 h32 h33 h34 h35 h36 h37 h38 h39 h40 h41 h42 h43 h44 h45 h46 h47 h48 h49 h50 h51 h52 h53 h54 h55 h56 h57 h58 h59 h60 h61 h62 h63 h64 h65 h66 (xs 2) (xs 3) (gm) hb1 hb2) [0, 1, 2, 3] [] rfl rfl rfl rfl rfl 0 rfl rfl (by decide) rfl hl.1 rfl (Nat.le_of_ble_eq_true rfl) dL_law_607 ⟨Nat.le_of_ble_eq_true rfl, Nat.le_of_ble_eq_true rfl⟩ (fun _ => [(h3, .inr (12, [.int 1, .ref h5, .int 0, .int 0, .int 0, .int (-1), .int 0, .int 0, .ref h26, .ref h4, .ref h27, .ref h28, .int 0, .ref h29, .ref h30, .int 0, .ref h31, .ref h32, .ref h33, .ref h34, .ref h35, .int 0, .ref h36, .ref h37, .ref h38, .int 0, .ref h39, .ref h40, .ref h41, .int 0, .int 0, .ref h42, .ref h43, .ref h44, .int 0, .long 0, .long 0, .ref h45, .ref h46, .ref h47, .ref h48, .ref h49, .ref h50, .ref h51, .ref h52, .ref h53, .ref h54, .int 0, .int 0, .ref h55, .ref h56, .ref h57, .ref h58, .ref h59, .ref h60, .ref h61, .ref h62, .ref h63, .int 0, .int 0, .int 0, .int 0, .long 0, .ref h64, .ref h65, .ref h66, .int 0, .int 0, .long 0]))]) (fun _ => rfl) (fun qs2 H locs hT => ?_)
  refine lv_istore (pc := 610) (lv' := [(6, .int 0), (5, .int 1), (0, .ref b), (1, .ref h0), (2, .ref h3), (3, .ref h6), (4, .int 0)]) hx hb dL_law_610 hl (by decide) rfl (fun ls hl => ?_)
  refine lv_aload_n (pc := 612) hx hb dL_law_612 rfl (lv_at hl 4 rfl) ?_
  refine z_cVI (pc := 613) hx hb hml hown hts hK hA hT lkV_RL_96 (k1051_X12_thrown l G cy h3 h5 h26 h4 h27 h28 h29 h30 h31 h32 h33 h34 h35 h36 h37 h38 h39 h40 h41 h42 h43 h44 h45 h46 h47 h48 h49 h50 h51 h52 h53 h54 h55 h56 h57 h58 h59 h60 h61 h62 h63 h64 h65 h66) [0] [] rfl rfl rfl rfl rfl 0 rfl rfl (by decide) rfl hl.1 rfl (Nat.le_of_ble_eq_true rfl) dL_law_613 ⟨Nat.le_of_ble_eq_true rfl, Nat.le_of_ble_eq_true rfl⟩ (fun _ => [(h3, .inr (12, [.int 1, .ref h5, .int 0, .int 0, .int 0, .int (-1), .int 0, .int 0, .ref h26, .ref h4, .ref h27, .ref h28, .int 0, .ref h29, .ref h30, .int 0, .ref h31, .ref h32, .ref h33, .ref h34, .ref h35, .int 0, .ref h36, .ref h37, .ref h38, .int 0, .ref h39, .ref h40, .ref h41, .int 0, .int 0, .ref h42, .ref h43, .ref h44, .int 0, .long 0, .long 0, .ref h45, .ref h46, .ref h47, .ref h48, .ref h49, .ref h50, .ref h51, .ref h52, .ref h53, .ref h54, .int 0, .int 0, .ref h55, .ref h56, .ref h57, .ref h58, .ref h59, .ref h60, .ref h61, .ref h62, .ref h63, .int 0, .int 0, .int 0, .int 0, .long 0, .ref h64, .ref h65, .ref h66, .int 0, .int 0, .long 0]))]) (fun _ => rfl) (fun qs3 H locs hT => ?_)
  refine lv_iload (pc := 616) hx hb dL_law_616 (lv_at hl 1 rfl) ?_
  refine zb_icmp_eq_t (pc := 618) (tgt := 623) hx hb dL_law_618 (by decide) (by decide) ?_
  refine lv_iload (pc := 623) hx hb dL_law_623 (lv_at hl 1 rfl) ?_
  refine zb_if_ne_t (pc := 625) (tgt := 640) hx hb dL_law_625 (by decide) (by decide) ?_
  refine lv_goto (pc := 640) (tgt := 1719) hx hb dL_law_640 (by decide) ?_
  exact q_end hx hb hr hlk hX hbl hT (lv_sub hl [2, 6] rfl) (Nat.le_of_ble_eq_true rfl) (Nat.le_of_ble_eq_true rfl)
set_option maxHeartbeats 4000000 in
set_option maxRecDepth 100000 in
theorem q_arc_1_big_2 {p : Program} {l : Launch} {e : Env} {s : State} {m : MethodId} {below : List Frame} {meth : Method} {c : Code} {H : Heap} {locs : List Loc} {ls : Array Slot} {G : va_G} {cy : Nat → ClassId} {b : Nat} {xs : Nat → Int32} (C : zC l G cy p s m meth c b 6 xs) (h0 h1 h2 h3 h4 h5 h6 h7 h8 h9 h10 h11 h12 h13 h14 h15 h16 h17 h18 h19 h20 h21 h22 h23 h24 h25 h26 h27 h28 h29 h30 h31 h32 h33 h34 h35 h36 h37 h38 h39 h40 h41 h42 h43 h44 h45 h46 h47 h48 h49 h50 h51 h52 h53 h54 h55 h56 h57 h58 h59 h60 h61 h62 h63 h64 h65 h66 : Nat) (gx : Nat → Nat) (gm : Nat → Nat) (hs1 : xs 1 = 2) (hb1 : ¬ ((xs 2) : Int32) < 0) (hb2 : ((-1) : Int32) < (xs 2)) (hT : zT G (fun q => s.heap.size ≤ q) s.heap H locs [(h0, .inr (11, [.ref h1, .ref h7, .ref h8, .ref h9, .ref h10, .ref h11, .ref h12, .ref h13, .ref h14, .ref h15, .ref h2, .int (-1), .int (-1), .int (-1), .int (-1)])), (h1, .inl (cy 3, 6, .inr (.inr (.inr (.inr (fun i => some (gx i))))))), ((gx 2), .inr (3, [.int 1, .int 0, .int 0, .int 0, .ref h16, .ref h17, .ref h18, .ref h19, .ref h20, .ref h21, .ref h22, .ref h23, .ref h24, .ref h25])), (h2, .inl (cy 0, 3, .inl (kc 0))), (h3, .inr (12, [.int 0, .ref h5, .int 0, .int 0, .int 0, .int (-1), .int 0, .int 0, .ref h26, .ref h4, .ref h27, .ref h28, .int 0, .ref h29, .ref h30, .int 0, .ref h31, .ref h32, .ref h33, .ref h34, .ref h35, .int 0, .ref h36, .ref h37, .ref h38, .int 0, .ref h39, .ref h40, .ref h41, .int 0, .int 0, .ref h42, .ref h43, .ref h44, .int 0, .long 0, .long 0, .ref h45, .ref h46, .ref h47, .ref h48, .ref h49, .ref h50, .ref h51, .ref h52, .ref h53, .ref h54, .int 0, .int 0, .ref h55, .ref h56, .ref h57, .ref h58, .ref h59, .ref h60, .ref h61, .ref h62, .ref h63, .int 0, .int 0, .int 0, .int 0, .long 0, .ref h64, .ref h65, .ref h66, .int 0, .int 0, .long 0])), (h4, .inl (cy 4, 6, .inr (.inr (.inr (.inr (fun i => some (gm i))))))), ((gm 2), .inl (cy 0, 643, .inl (zfil (upd (kc 0) 0 1) 3 43 (-1)))), (h5, .inl (cy 0, 3, .inl (kc 0)))]) (hl : lv_has ls 8 [(0, .ref b), (1, .ref h0), (2, .ref h3), (3, .ref h6), (4, .int 0)]) : W p l e (zR 1000 600002 7302232) s m #[Value.ref b] below meth c H locs 476 284354 (lw_Z below #[Value.ref b] s) (F0 m 563 ls []) := by
  obtain ⟨hl0, hx, hb, hr, hml, hown, hts, hX, hbl, hlk, hK, hE, q1, v1, q2, v2, hS⟩ := C
  have hA : ∀ q : Nat, s.heap.size ≤ q → (fun q => s.heap.size ≤ q) q := fun _ h => h
  have hbA : ¬ (fun q => s.heap.size ≤ q) b := Nat.not_le.mpr hbl
  refine lv_aload_n (pc := 563) hx hb dL_law_563 rfl (lv_at hl 1 rfl) ?_
  refine lv_aload_n (pc := 564) hx hb dL_law_564 rfl (lv_at hl 0 rfl) ?_
  refine lv_iload (pc := 565) hx hb dL_law_565 (lv_at hl 4 rfl) ?_
  refine lv_iconst (pc := 567) (v := 1) hx hb dL_law_567 (by decide) ?_
  refine z_iadd (pc := 568) (v := 1) hx hb dL_law_568 (by decide) ?_
  refine z_sld (pc := 569) (v := 2) hx hb hX hbl hbA hT 1 rfl (by decide) hs1 dL_law_569 ?_
  refine lv_aload_n (pc := 570) hx hb dL_law_570 rfl (lv_at hl 0 rfl) ?_
  refine lv_iload (pc := 571) hx hb dL_law_571 (lv_at hl 4 rfl) ?_
  refine lv_iconst (pc := 573) (v := 2) hx hb dL_law_573 (by decide) ?_
  refine z_iadd (pc := 574) (v := 2) hx hb dL_law_574 (by decide) ?_
  refine z_sld (pc := 575) (v := (xs 2)) hx hb hX hbl hbA hT 2 rfl (by decide) rfl dL_law_575 ?_
  refine lv_aload_n (pc := 576) hx hb dL_law_576 rfl (lv_at hl 0 rfl) ?_
  refine lv_iload (pc := 577) hx hb dL_law_577 (lv_at hl 4 rfl) ?_
  refine lv_iconst (pc := 579) (v := 3) hx hb dL_law_579 (by decide) ?_
  refine z_iadd (pc := 580) (v := 3) hx hb dL_law_580 (by decide) ?_
  refine z_sld (pc := 581) (v := (xs 3)) hx hb hX hbl hbA hT 3 rfl (by decide) rfl dL_law_581 ?_
  refine lv_aload_n (pc := 582) hx hb dL_law_582 rfl (lv_at hl 3 rfl) ?_
  refine z_eHI (pc := 583) zE_ok hE hx hb hml hown hts hK hA hT lkH_RL_119 ((k843_L_arc l G cy hl0 h0 h1 h2 h6 h7 h8 h9 h10 h11 h12 h13 h14 h15 h16 h17 h18 h19 h20 h21 h22 h23 h24 h25 (xs 2) (xs 3) 2 (gx) (by omega) (by omega) hb1).e) [0, 1, 2, 3] [4, 5, 6, 7] rfl rfl rfl rfl rfl (by decide) rfl hl.1 rfl (Nat.le_of_ble_eq_true rfl) dL_law_583 ⟨Nat.le_of_ble_eq_true rfl, Nat.le_of_ble_eq_true rfl⟩ (fun _ => [(h3, .inr (12, [.int 0, .ref h5, .int 0, .int 0, .int 0, .int (-1), .int 0, .int 0, .ref h26, .ref h4, .ref h27, .ref h28, .int 0, .ref h29, .ref h30, .int 0, .ref h31, .ref h32, .ref h33, .ref h34, .ref h35, .int 0, .ref h36, .ref h37, .ref h38, .int 0, .ref h39, .ref h40, .ref h41, .int 0, .int 0, .ref h42, .ref h43, .ref h44, .int 0, .long 0, .long 0, .ref h45, .ref h46, .ref h47, .ref h48, .ref h49, .ref h50, .ref h51, .ref h52, .ref h53, .ref h54, .int 0, .int 0, .ref h55, .ref h56, .ref h57, .ref h58, .ref h59, .ref h60, .ref h61, .ref h62, .ref h63, .int 0, .int 0, .int 0, .int 0, .long 0, .ref h64, .ref h65, .ref h66, .int 0, .int 0, .long 0])), (h4, .inl (cy 4, 6, .inr (.inr (.inr (.inr (fun i => some (gm i))))))), ((gm 2), .inl (cy 0, 643, .inl (zfil (upd (kc 0) 0 1) 3 43 (-1)))), (h5, .inl (cy 0, 3, .inl (kc 0)))]) (fun _ => rfl) (fun qs1 H locs hT => ?_)
  refine lv_istore (pc := 586) (lv' := [(5, .int 1), (0, .ref b), (1, .ref h0), (2, .ref h3), (3, .ref h6), (4, .int 0)]) hx hb dL_law_586 hl (by decide) rfl (fun ls hl => ?_)
  refine lv_aload_n (pc := 588) hx hb dL_law_588 rfl (lv_at hl 3 rfl) ?_
  refine lv_aload_n (pc := 589) hx hb dL_law_589 rfl (lv_at hl 1 rfl) ?_
  refine lv_iload (pc := 590) hx hb dL_law_590 (lv_at hl 5 rfl) ?_
  refine lv_iconst (pc := 592) (v := 1) hx hb dL_law_592 (by decide) ?_
  refine z_iadd (pc := 593) (v := 1) hx hb dL_law_593 (by decide) ?_
  refine z_sld (pc := 594) (v := 2) hx hb hX hbl hbA hT 1 rfl (by decide) hs1 dL_law_594 ?_
  refine lv_aload_n (pc := 595) hx hb dL_law_595 rfl (lv_at hl 1 rfl) ?_
  refine lv_iload (pc := 596) hx hb dL_law_596 (lv_at hl 5 rfl) ?_
  refine lv_iconst (pc := 598) (v := 2) hx hb dL_law_598 (by decide) ?_
  refine z_iadd (pc := 599) (v := 2) hx hb dL_law_599 (by decide) ?_
  refine z_sld (pc := 600) (v := (xs 2)) hx hb hX hbl hbA hT 2 rfl (by decide) rfl dL_law_600 ?_
  refine lv_aload_n (pc := 601) hx hb dL_law_601 rfl (lv_at hl 1 rfl) ?_
  refine lv_iload (pc := 602) hx hb dL_law_602 (lv_at hl 5 rfl) ?_
  refine lv_iconst (pc := 604) (v := 3) hx hb dL_law_604 (by decide) ?_
  refine z_iadd (pc := 605) (v := 3) hx hb dL_law_605 (by decide) ?_
  refine z_sld (pc := 606) (v := (xs 3)) hx hb hX hbl hbA hT 3 rfl (by decide) rfl dL_law_606 ?_
  refine z_cVI (pc := 607) hx hb hml hown hts hK hA hT lkV_RL_121 (k681_X12_arc l G cy h3 h4 h5 h26 h27 h28 h29 h30 h31 h32 h33 h34 h35 h36 h37 h38 h39 h40 h41 h42 h43 h44 h45 h46 h47 h48 h49 h50 h51 h52 h53 h54 h55 h56 h57 h58 h59 h60 h61 h62 h63 h64 h65 h66 (xs 2) (xs 3) (gm) hb1 hb2) [0, 1, 2, 3] [] rfl rfl rfl rfl rfl 0 rfl rfl (by decide) rfl hl.1 rfl (Nat.le_of_ble_eq_true rfl) dL_law_607 ⟨Nat.le_of_ble_eq_true rfl, Nat.le_of_ble_eq_true rfl⟩ (fun _ => [(h3, .inr (12, [.int 1, .ref h5, .int 0, .int 0, .int 0, .int (-1), .int 0, .int 0, .ref h26, .ref h4, .ref h27, .ref h28, .int 0, .ref h29, .ref h30, .int 0, .ref h31, .ref h32, .ref h33, .ref h34, .ref h35, .int 0, .ref h36, .ref h37, .ref h38, .int 0, .ref h39, .ref h40, .ref h41, .int 0, .int 0, .ref h42, .ref h43, .ref h44, .int 0, .long 0, .long 0, .ref h45, .ref h46, .ref h47, .ref h48, .ref h49, .ref h50, .ref h51, .ref h52, .ref h53, .ref h54, .int 0, .int 0, .ref h55, .ref h56, .ref h57, .ref h58, .ref h59, .ref h60, .ref h61, .ref h62, .ref h63, .int 0, .int 0, .int 0, .int 0, .long 0, .ref h64, .ref h65, .ref h66, .int 0, .int 0, .long 0]))]) (fun _ => rfl) (fun qs2 H locs hT => ?_)
  refine lv_istore (pc := 610) (lv' := [(6, .int 0), (5, .int 1), (0, .ref b), (1, .ref h0), (2, .ref h3), (3, .ref h6), (4, .int 0)]) hx hb dL_law_610 hl (by decide) rfl (fun ls hl => ?_)
  refine lv_aload_n (pc := 612) hx hb dL_law_612 rfl (lv_at hl 4 rfl) ?_
  refine z_cVI (pc := 613) hx hb hml hown hts hK hA hT lkV_RL_96 (k1051_X12_thrown l G cy h3 h5 h26 h4 h27 h28 h29 h30 h31 h32 h33 h34 h35 h36 h37 h38 h39 h40 h41 h42 h43 h44 h45 h46 h47 h48 h49 h50 h51 h52 h53 h54 h55 h56 h57 h58 h59 h60 h61 h62 h63 h64 h65 h66) [0] [] rfl rfl rfl rfl rfl 0 rfl rfl (by decide) rfl hl.1 rfl (Nat.le_of_ble_eq_true rfl) dL_law_613 ⟨Nat.le_of_ble_eq_true rfl, Nat.le_of_ble_eq_true rfl⟩ (fun _ => [(h3, .inr (12, [.int 1, .ref h5, .int 0, .int 0, .int 0, .int (-1), .int 0, .int 0, .ref h26, .ref h4, .ref h27, .ref h28, .int 0, .ref h29, .ref h30, .int 0, .ref h31, .ref h32, .ref h33, .ref h34, .ref h35, .int 0, .ref h36, .ref h37, .ref h38, .int 0, .ref h39, .ref h40, .ref h41, .int 0, .int 0, .ref h42, .ref h43, .ref h44, .int 0, .long 0, .long 0, .ref h45, .ref h46, .ref h47, .ref h48, .ref h49, .ref h50, .ref h51, .ref h52, .ref h53, .ref h54, .int 0, .int 0, .ref h55, .ref h56, .ref h57, .ref h58, .ref h59, .ref h60, .ref h61, .ref h62, .ref h63, .int 0, .int 0, .int 0, .int 0, .long 0, .ref h64, .ref h65, .ref h66, .int 0, .int 0, .long 0]))]) (fun _ => rfl) (fun qs3 H locs hT => ?_)
  refine lv_iload (pc := 616) hx hb dL_law_616 (lv_at hl 1 rfl) ?_
  refine zb_icmp_eq_t (pc := 618) (tgt := 623) hx hb dL_law_618 (by decide) (by decide) ?_
  refine lv_iload (pc := 623) hx hb dL_law_623 (lv_at hl 1 rfl) ?_
  refine zb_if_ne_t (pc := 625) (tgt := 640) hx hb dL_law_625 (by decide) (by decide) ?_
  refine lv_goto (pc := 640) (tgt := 1719) hx hb dL_law_640 (by decide) ?_
  exact q_end hx hb hr hlk hX hbl hT (lv_sub hl [2, 6] rfl) (Nat.le_of_ble_eq_true rfl) (Nat.le_of_ble_eq_true rfl)
set_option maxHeartbeats 4000000 in
set_option maxRecDepth 100000 in
theorem q_arc_1_big_3 {p : Program} {l : Launch} {e : Env} {s : State} {m : MethodId} {below : List Frame} {meth : Method} {c : Code} {H : Heap} {locs : List Loc} {ls : Array Slot} {G : va_G} {cy : Nat → ClassId} {b : Nat} {xs : Nat → Int32} (C : zC l G cy p s m meth c b 6 xs) (h0 h1 h2 h3 h4 h5 h6 h7 h8 h9 h10 h11 h12 h13 h14 h15 h16 h17 h18 h19 h20 h21 h22 h23 h24 h25 h26 h27 h28 h29 h30 h31 h32 h33 h34 h35 h36 h37 h38 h39 h40 h41 h42 h43 h44 h45 h46 h47 h48 h49 h50 h51 h52 h53 h54 h55 h56 h57 h58 h59 h60 h61 h62 h63 h64 h65 h66 : Nat) (gx : Nat → Nat) (gm : Nat → Nat) (hs1 : xs 1 = 3) (hb1 : ¬ ((xs 2) : Int32) < 0) (hb2 : ((-1) : Int32) < (xs 2)) (hT : zT G (fun q => s.heap.size ≤ q) s.heap H locs [(h0, .inr (11, [.ref h1, .ref h7, .ref h8, .ref h9, .ref h10, .ref h11, .ref h12, .ref h13, .ref h14, .ref h15, .ref h2, .int (-1), .int (-1), .int (-1), .int (-1)])), (h1, .inl (cy 3, 6, .inr (.inr (.inr (.inr (fun i => some (gx i))))))), ((gx 3), .inr (3, [.int 1, .int 0, .int 0, .int 0, .ref h16, .ref h17, .ref h18, .ref h19, .ref h20, .ref h21, .ref h22, .ref h23, .ref h24, .ref h25])), (h2, .inl (cy 0, 3, .inl (kc 0))), (h3, .inr (12, [.int 0, .ref h5, .int 0, .int 0, .int 0, .int (-1), .int 0, .int 0, .ref h26, .ref h4, .ref h27, .ref h28, .int 0, .ref h29, .ref h30, .int 0, .ref h31, .ref h32, .ref h33, .ref h34, .ref h35, .int 0, .ref h36, .ref h37, .ref h38, .int 0, .ref h39, .ref h40, .ref h41, .int 0, .int 0, .ref h42, .ref h43, .ref h44, .int 0, .long 0, .long 0, .ref h45, .ref h46, .ref h47, .ref h48, .ref h49, .ref h50, .ref h51, .ref h52, .ref h53, .ref h54, .int 0, .int 0, .ref h55, .ref h56, .ref h57, .ref h58, .ref h59, .ref h60, .ref h61, .ref h62, .ref h63, .int 0, .int 0, .int 0, .int 0, .long 0, .ref h64, .ref h65, .ref h66, .int 0, .int 0, .long 0])), (h4, .inl (cy 4, 6, .inr (.inr (.inr (.inr (fun i => some (gm i))))))), ((gm 3), .inl (cy 0, 643, .inl (zfil (upd (kc 0) 0 1) 3 43 (-1)))), (h5, .inl (cy 0, 3, .inl (kc 0)))]) (hl : lv_has ls 8 [(0, .ref b), (1, .ref h0), (2, .ref h3), (3, .ref h6), (4, .int 0)]) : W p l e (zR 1000 600002 7302232) s m #[Value.ref b] below meth c H locs 476 284354 (lw_Z below #[Value.ref b] s) (F0 m 563 ls []) := by
  obtain ⟨hl0, hx, hb, hr, hml, hown, hts, hX, hbl, hlk, hK, hE, q1, v1, q2, v2, hS⟩ := C
  have hA : ∀ q : Nat, s.heap.size ≤ q → (fun q => s.heap.size ≤ q) q := fun _ h => h
  have hbA : ¬ (fun q => s.heap.size ≤ q) b := Nat.not_le.mpr hbl
  refine lv_aload_n (pc := 563) hx hb dL_law_563 rfl (lv_at hl 1 rfl) ?_
  refine lv_aload_n (pc := 564) hx hb dL_law_564 rfl (lv_at hl 0 rfl) ?_
  refine lv_iload (pc := 565) hx hb dL_law_565 (lv_at hl 4 rfl) ?_
  refine lv_iconst (pc := 567) (v := 1) hx hb dL_law_567 (by decide) ?_
  refine z_iadd (pc := 568) (v := 1) hx hb dL_law_568 (by decide) ?_
  refine z_sld (pc := 569) (v := 3) hx hb hX hbl hbA hT 1 rfl (by decide) hs1 dL_law_569 ?_
  refine lv_aload_n (pc := 570) hx hb dL_law_570 rfl (lv_at hl 0 rfl) ?_
  refine lv_iload (pc := 571) hx hb dL_law_571 (lv_at hl 4 rfl) ?_
  refine lv_iconst (pc := 573) (v := 2) hx hb dL_law_573 (by decide) ?_
  refine z_iadd (pc := 574) (v := 2) hx hb dL_law_574 (by decide) ?_
  refine z_sld (pc := 575) (v := (xs 2)) hx hb hX hbl hbA hT 2 rfl (by decide) rfl dL_law_575 ?_
  refine lv_aload_n (pc := 576) hx hb dL_law_576 rfl (lv_at hl 0 rfl) ?_
  refine lv_iload (pc := 577) hx hb dL_law_577 (lv_at hl 4 rfl) ?_
  refine lv_iconst (pc := 579) (v := 3) hx hb dL_law_579 (by decide) ?_
  refine z_iadd (pc := 580) (v := 3) hx hb dL_law_580 (by decide) ?_
  refine z_sld (pc := 581) (v := (xs 3)) hx hb hX hbl hbA hT 3 rfl (by decide) rfl dL_law_581 ?_
  refine lv_aload_n (pc := 582) hx hb dL_law_582 rfl (lv_at hl 3 rfl) ?_
  refine z_eHI (pc := 583) zE_ok hE hx hb hml hown hts hK hA hT lkH_RL_119 ((k843_L_arc l G cy hl0 h0 h1 h2 h6 h7 h8 h9 h10 h11 h12 h13 h14 h15 h16 h17 h18 h19 h20 h21 h22 h23 h24 h25 (xs 2) (xs 3) 3 (gx) (by omega) (by omega) hb1).e) [0, 1, 2, 3] [4, 5, 6, 7] rfl rfl rfl rfl rfl (by decide) rfl hl.1 rfl (Nat.le_of_ble_eq_true rfl) dL_law_583 ⟨Nat.le_of_ble_eq_true rfl, Nat.le_of_ble_eq_true rfl⟩ (fun _ => [(h3, .inr (12, [.int 0, .ref h5, .int 0, .int 0, .int 0, .int (-1), .int 0, .int 0, .ref h26, .ref h4, .ref h27, .ref h28, .int 0, .ref h29, .ref h30, .int 0, .ref h31, .ref h32, .ref h33, .ref h34, .ref h35, .int 0, .ref h36, .ref h37, .ref h38, .int 0, .ref h39, .ref h40, .ref h41, .int 0, .int 0, .ref h42, .ref h43, .ref h44, .int 0, .long 0, .long 0, .ref h45, .ref h46, .ref h47, .ref h48, .ref h49, .ref h50, .ref h51, .ref h52, .ref h53, .ref h54, .int 0, .int 0, .ref h55, .ref h56, .ref h57, .ref h58, .ref h59, .ref h60, .ref h61, .ref h62, .ref h63, .int 0, .int 0, .int 0, .int 0, .long 0, .ref h64, .ref h65, .ref h66, .int 0, .int 0, .long 0])), (h4, .inl (cy 4, 6, .inr (.inr (.inr (.inr (fun i => some (gm i))))))), ((gm 3), .inl (cy 0, 643, .inl (zfil (upd (kc 0) 0 1) 3 43 (-1)))), (h5, .inl (cy 0, 3, .inl (kc 0)))]) (fun _ => rfl) (fun qs1 H locs hT => ?_)
  refine lv_istore (pc := 586) (lv' := [(5, .int 1), (0, .ref b), (1, .ref h0), (2, .ref h3), (3, .ref h6), (4, .int 0)]) hx hb dL_law_586 hl (by decide) rfl (fun ls hl => ?_)
  refine lv_aload_n (pc := 588) hx hb dL_law_588 rfl (lv_at hl 3 rfl) ?_
  refine lv_aload_n (pc := 589) hx hb dL_law_589 rfl (lv_at hl 1 rfl) ?_
  refine lv_iload (pc := 590) hx hb dL_law_590 (lv_at hl 5 rfl) ?_
  refine lv_iconst (pc := 592) (v := 1) hx hb dL_law_592 (by decide) ?_
  refine z_iadd (pc := 593) (v := 1) hx hb dL_law_593 (by decide) ?_
  refine z_sld (pc := 594) (v := 3) hx hb hX hbl hbA hT 1 rfl (by decide) hs1 dL_law_594 ?_
  refine lv_aload_n (pc := 595) hx hb dL_law_595 rfl (lv_at hl 1 rfl) ?_
  refine lv_iload (pc := 596) hx hb dL_law_596 (lv_at hl 5 rfl) ?_
  refine lv_iconst (pc := 598) (v := 2) hx hb dL_law_598 (by decide) ?_
  refine z_iadd (pc := 599) (v := 2) hx hb dL_law_599 (by decide) ?_
  refine z_sld (pc := 600) (v := (xs 2)) hx hb hX hbl hbA hT 2 rfl (by decide) rfl dL_law_600 ?_
  refine lv_aload_n (pc := 601) hx hb dL_law_601 rfl (lv_at hl 1 rfl) ?_
  refine lv_iload (pc := 602) hx hb dL_law_602 (lv_at hl 5 rfl) ?_
  refine lv_iconst (pc := 604) (v := 3) hx hb dL_law_604 (by decide) ?_
  refine z_iadd (pc := 605) (v := 3) hx hb dL_law_605 (by decide) ?_
  refine z_sld (pc := 606) (v := (xs 3)) hx hb hX hbl hbA hT 3 rfl (by decide) rfl dL_law_606 ?_
  refine z_cVI (pc := 607) hx hb hml hown hts hK hA hT lkV_RL_121 (k682_X12_arc l G cy h3 h4 h5 h26 h27 h28 h29 h30 h31 h32 h33 h34 h35 h36 h37 h38 h39 h40 h41 h42 h43 h44 h45 h46 h47 h48 h49 h50 h51 h52 h53 h54 h55 h56 h57 h58 h59 h60 h61 h62 h63 h64 h65 h66 (xs 2) (xs 3) (gm) hb1 hb2) [0, 1, 2, 3] [] rfl rfl rfl rfl rfl 0 rfl rfl (by decide) rfl hl.1 rfl (Nat.le_of_ble_eq_true rfl) dL_law_607 ⟨Nat.le_of_ble_eq_true rfl, Nat.le_of_ble_eq_true rfl⟩ (fun _ => [(h3, .inr (12, [.int 1, .ref h5, .int 0, .int 0, .int 0, .int (-1), .int 0, .int 0, .ref h26, .ref h4, .ref h27, .ref h28, .int 0, .ref h29, .ref h30, .int 0, .ref h31, .ref h32, .ref h33, .ref h34, .ref h35, .int 0, .ref h36, .ref h37, .ref h38, .int 0, .ref h39, .ref h40, .ref h41, .int 0, .int 0, .ref h42, .ref h43, .ref h44, .int 0, .long 0, .long 0, .ref h45, .ref h46, .ref h47, .ref h48, .ref h49, .ref h50, .ref h51, .ref h52, .ref h53, .ref h54, .int 0, .int 0, .ref h55, .ref h56, .ref h57, .ref h58, .ref h59, .ref h60, .ref h61, .ref h62, .ref h63, .int 0, .int 0, .int 0, .int 0, .long 0, .ref h64, .ref h65, .ref h66, .int 0, .int 0, .long 0]))]) (fun _ => rfl) (fun qs2 H locs hT => ?_)
  refine lv_istore (pc := 610) (lv' := [(6, .int 0), (5, .int 1), (0, .ref b), (1, .ref h0), (2, .ref h3), (3, .ref h6), (4, .int 0)]) hx hb dL_law_610 hl (by decide) rfl (fun ls hl => ?_)
  refine lv_aload_n (pc := 612) hx hb dL_law_612 rfl (lv_at hl 4 rfl) ?_
  refine z_cVI (pc := 613) hx hb hml hown hts hK hA hT lkV_RL_96 (k1051_X12_thrown l G cy h3 h5 h26 h4 h27 h28 h29 h30 h31 h32 h33 h34 h35 h36 h37 h38 h39 h40 h41 h42 h43 h44 h45 h46 h47 h48 h49 h50 h51 h52 h53 h54 h55 h56 h57 h58 h59 h60 h61 h62 h63 h64 h65 h66) [0] [] rfl rfl rfl rfl rfl 0 rfl rfl (by decide) rfl hl.1 rfl (Nat.le_of_ble_eq_true rfl) dL_law_613 ⟨Nat.le_of_ble_eq_true rfl, Nat.le_of_ble_eq_true rfl⟩ (fun _ => [(h3, .inr (12, [.int 1, .ref h5, .int 0, .int 0, .int 0, .int (-1), .int 0, .int 0, .ref h26, .ref h4, .ref h27, .ref h28, .int 0, .ref h29, .ref h30, .int 0, .ref h31, .ref h32, .ref h33, .ref h34, .ref h35, .int 0, .ref h36, .ref h37, .ref h38, .int 0, .ref h39, .ref h40, .ref h41, .int 0, .int 0, .ref h42, .ref h43, .ref h44, .int 0, .long 0, .long 0, .ref h45, .ref h46, .ref h47, .ref h48, .ref h49, .ref h50, .ref h51, .ref h52, .ref h53, .ref h54, .int 0, .int 0, .ref h55, .ref h56, .ref h57, .ref h58, .ref h59, .ref h60, .ref h61, .ref h62, .ref h63, .int 0, .int 0, .int 0, .int 0, .long 0, .ref h64, .ref h65, .ref h66, .int 0, .int 0, .long 0]))]) (fun _ => rfl) (fun qs3 H locs hT => ?_)
  refine lv_iload (pc := 616) hx hb dL_law_616 (lv_at hl 1 rfl) ?_
  refine zb_icmp_eq_t (pc := 618) (tgt := 623) hx hb dL_law_618 (by decide) (by decide) ?_
  refine lv_iload (pc := 623) hx hb dL_law_623 (lv_at hl 1 rfl) ?_
  refine zb_if_ne_t (pc := 625) (tgt := 640) hx hb dL_law_625 (by decide) (by decide) ?_
  refine lv_goto (pc := 640) (tgt := 1719) hx hb dL_law_640 (by decide) ?_
  exact q_end hx hb hr hlk hX hbl hT (lv_sub hl [2, 6] rfl) (Nat.le_of_ble_eq_true rfl) (Nat.le_of_ble_eq_true rfl)
set_option maxHeartbeats 4000000 in
set_option maxRecDepth 100000 in
theorem q_arc_1_big_4 {p : Program} {l : Launch} {e : Env} {s : State} {m : MethodId} {below : List Frame} {meth : Method} {c : Code} {H : Heap} {locs : List Loc} {ls : Array Slot} {G : va_G} {cy : Nat → ClassId} {b : Nat} {xs : Nat → Int32} (C : zC l G cy p s m meth c b 6 xs) (h0 h1 h2 h3 h4 h5 h6 h7 h8 h9 h10 h11 h12 h13 h14 h15 h16 h17 h18 h19 h20 h21 h22 h23 h24 h25 h26 h27 h28 h29 h30 h31 h32 h33 h34 h35 h36 h37 h38 h39 h40 h41 h42 h43 h44 h45 h46 h47 h48 h49 h50 h51 h52 h53 h54 h55 h56 h57 h58 h59 h60 h61 h62 h63 h64 h65 h66 : Nat) (gx : Nat → Nat) (gm : Nat → Nat) (hs1 : xs 1 = 4) (hb1 : ¬ ((xs 2) : Int32) < 0) (hb2 : ((-1) : Int32) < (xs 2)) (hT : zT G (fun q => s.heap.size ≤ q) s.heap H locs [(h0, .inr (11, [.ref h1, .ref h7, .ref h8, .ref h9, .ref h10, .ref h11, .ref h12, .ref h13, .ref h14, .ref h15, .ref h2, .int (-1), .int (-1), .int (-1), .int (-1)])), (h1, .inl (cy 3, 6, .inr (.inr (.inr (.inr (fun i => some (gx i))))))), ((gx 4), .inr (3, [.int 1, .int 0, .int 0, .int 0, .ref h16, .ref h17, .ref h18, .ref h19, .ref h20, .ref h21, .ref h22, .ref h23, .ref h24, .ref h25])), (h2, .inl (cy 0, 3, .inl (kc 0))), (h3, .inr (12, [.int 0, .ref h5, .int 0, .int 0, .int 0, .int (-1), .int 0, .int 0, .ref h26, .ref h4, .ref h27, .ref h28, .int 0, .ref h29, .ref h30, .int 0, .ref h31, .ref h32, .ref h33, .ref h34, .ref h35, .int 0, .ref h36, .ref h37, .ref h38, .int 0, .ref h39, .ref h40, .ref h41, .int 0, .int 0, .ref h42, .ref h43, .ref h44, .int 0, .long 0, .long 0, .ref h45, .ref h46, .ref h47, .ref h48, .ref h49, .ref h50, .ref h51, .ref h52, .ref h53, .ref h54, .int 0, .int 0, .ref h55, .ref h56, .ref h57, .ref h58, .ref h59, .ref h60, .ref h61, .ref h62, .ref h63, .int 0, .int 0, .int 0, .int 0, .long 0, .ref h64, .ref h65, .ref h66, .int 0, .int 0, .long 0])), (h4, .inl (cy 4, 6, .inr (.inr (.inr (.inr (fun i => some (gm i))))))), ((gm 4), .inl (cy 0, 643, .inl (zfil (upd (kc 0) 0 1) 3 43 (-1)))), (h5, .inl (cy 0, 3, .inl (kc 0)))]) (hl : lv_has ls 8 [(0, .ref b), (1, .ref h0), (2, .ref h3), (3, .ref h6), (4, .int 0)]) : W p l e (zR 1000 600002 7302232) s m #[Value.ref b] below meth c H locs 476 284354 (lw_Z below #[Value.ref b] s) (F0 m 563 ls []) := by
  obtain ⟨hl0, hx, hb, hr, hml, hown, hts, hX, hbl, hlk, hK, hE, q1, v1, q2, v2, hS⟩ := C
  have hA : ∀ q : Nat, s.heap.size ≤ q → (fun q => s.heap.size ≤ q) q := fun _ h => h
  have hbA : ¬ (fun q => s.heap.size ≤ q) b := Nat.not_le.mpr hbl
  refine lv_aload_n (pc := 563) hx hb dL_law_563 rfl (lv_at hl 1 rfl) ?_
  refine lv_aload_n (pc := 564) hx hb dL_law_564 rfl (lv_at hl 0 rfl) ?_
  refine lv_iload (pc := 565) hx hb dL_law_565 (lv_at hl 4 rfl) ?_
  refine lv_iconst (pc := 567) (v := 1) hx hb dL_law_567 (by decide) ?_
  refine z_iadd (pc := 568) (v := 1) hx hb dL_law_568 (by decide) ?_
  refine z_sld (pc := 569) (v := 4) hx hb hX hbl hbA hT 1 rfl (by decide) hs1 dL_law_569 ?_
  refine lv_aload_n (pc := 570) hx hb dL_law_570 rfl (lv_at hl 0 rfl) ?_
  refine lv_iload (pc := 571) hx hb dL_law_571 (lv_at hl 4 rfl) ?_
  refine lv_iconst (pc := 573) (v := 2) hx hb dL_law_573 (by decide) ?_
  refine z_iadd (pc := 574) (v := 2) hx hb dL_law_574 (by decide) ?_
  refine z_sld (pc := 575) (v := (xs 2)) hx hb hX hbl hbA hT 2 rfl (by decide) rfl dL_law_575 ?_
  refine lv_aload_n (pc := 576) hx hb dL_law_576 rfl (lv_at hl 0 rfl) ?_
  refine lv_iload (pc := 577) hx hb dL_law_577 (lv_at hl 4 rfl) ?_
  refine lv_iconst (pc := 579) (v := 3) hx hb dL_law_579 (by decide) ?_
  refine z_iadd (pc := 580) (v := 3) hx hb dL_law_580 (by decide) ?_
  refine z_sld (pc := 581) (v := (xs 3)) hx hb hX hbl hbA hT 3 rfl (by decide) rfl dL_law_581 ?_
  refine lv_aload_n (pc := 582) hx hb dL_law_582 rfl (lv_at hl 3 rfl) ?_
  refine z_eHI (pc := 583) zE_ok hE hx hb hml hown hts hK hA hT lkH_RL_119 ((k843_L_arc l G cy hl0 h0 h1 h2 h6 h7 h8 h9 h10 h11 h12 h13 h14 h15 h16 h17 h18 h19 h20 h21 h22 h23 h24 h25 (xs 2) (xs 3) 4 (gx) (by omega) (by omega) hb1).e) [0, 1, 2, 3] [4, 5, 6, 7] rfl rfl rfl rfl rfl (by decide) rfl hl.1 rfl (Nat.le_of_ble_eq_true rfl) dL_law_583 ⟨Nat.le_of_ble_eq_true rfl, Nat.le_of_ble_eq_true rfl⟩ (fun _ => [(h3, .inr (12, [.int 0, .ref h5, .int 0, .int 0, .int 0, .int (-1), .int 0, .int 0, .ref h26, .ref h4, .ref h27, .ref h28, .int 0, .ref h29, .ref h30, .int 0, .ref h31, .ref h32, .ref h33, .ref h34, .ref h35, .int 0, .ref h36, .ref h37, .ref h38, .int 0, .ref h39, .ref h40, .ref h41, .int 0, .int 0, .ref h42, .ref h43, .ref h44, .int 0, .long 0, .long 0, .ref h45, .ref h46, .ref h47, .ref h48, .ref h49, .ref h50, .ref h51, .ref h52, .ref h53, .ref h54, .int 0, .int 0, .ref h55, .ref h56, .ref h57, .ref h58, .ref h59, .ref h60, .ref h61, .ref h62, .ref h63, .int 0, .int 0, .int 0, .int 0, .long 0, .ref h64, .ref h65, .ref h66, .int 0, .int 0, .long 0])), (h4, .inl (cy 4, 6, .inr (.inr (.inr (.inr (fun i => some (gm i))))))), ((gm 4), .inl (cy 0, 643, .inl (zfil (upd (kc 0) 0 1) 3 43 (-1)))), (h5, .inl (cy 0, 3, .inl (kc 0)))]) (fun _ => rfl) (fun qs1 H locs hT => ?_)
  refine lv_istore (pc := 586) (lv' := [(5, .int 1), (0, .ref b), (1, .ref h0), (2, .ref h3), (3, .ref h6), (4, .int 0)]) hx hb dL_law_586 hl (by decide) rfl (fun ls hl => ?_)
  refine lv_aload_n (pc := 588) hx hb dL_law_588 rfl (lv_at hl 3 rfl) ?_
  refine lv_aload_n (pc := 589) hx hb dL_law_589 rfl (lv_at hl 1 rfl) ?_
  refine lv_iload (pc := 590) hx hb dL_law_590 (lv_at hl 5 rfl) ?_
  refine lv_iconst (pc := 592) (v := 1) hx hb dL_law_592 (by decide) ?_
  refine z_iadd (pc := 593) (v := 1) hx hb dL_law_593 (by decide) ?_
  refine z_sld (pc := 594) (v := 4) hx hb hX hbl hbA hT 1 rfl (by decide) hs1 dL_law_594 ?_
  refine lv_aload_n (pc := 595) hx hb dL_law_595 rfl (lv_at hl 1 rfl) ?_
  refine lv_iload (pc := 596) hx hb dL_law_596 (lv_at hl 5 rfl) ?_
  refine lv_iconst (pc := 598) (v := 2) hx hb dL_law_598 (by decide) ?_
  refine z_iadd (pc := 599) (v := 2) hx hb dL_law_599 (by decide) ?_
  refine z_sld (pc := 600) (v := (xs 2)) hx hb hX hbl hbA hT 2 rfl (by decide) rfl dL_law_600 ?_
  refine lv_aload_n (pc := 601) hx hb dL_law_601 rfl (lv_at hl 1 rfl) ?_
  refine lv_iload (pc := 602) hx hb dL_law_602 (lv_at hl 5 rfl) ?_
  refine lv_iconst (pc := 604) (v := 3) hx hb dL_law_604 (by decide) ?_
  refine z_iadd (pc := 605) (v := 3) hx hb dL_law_605 (by decide) ?_
  refine z_sld (pc := 606) (v := (xs 3)) hx hb hX hbl hbA hT 3 rfl (by decide) rfl dL_law_606 ?_
  refine z_cVI (pc := 607) hx hb hml hown hts hK hA hT lkV_RL_121 (k683_X12_arc l G cy h3 h4 h5 h26 h27 h28 h29 h30 h31 h32 h33 h34 h35 h36 h37 h38 h39 h40 h41 h42 h43 h44 h45 h46 h47 h48 h49 h50 h51 h52 h53 h54 h55 h56 h57 h58 h59 h60 h61 h62 h63 h64 h65 h66 (xs 2) (xs 3) (gm) hb1 hb2) [0, 1, 2, 3] [] rfl rfl rfl rfl rfl 0 rfl rfl (by decide) rfl hl.1 rfl (Nat.le_of_ble_eq_true rfl) dL_law_607 ⟨Nat.le_of_ble_eq_true rfl, Nat.le_of_ble_eq_true rfl⟩ (fun _ => [(h3, .inr (12, [.int 1, .ref h5, .int 0, .int 0, .int 0, .int (-1), .int 0, .int 0, .ref h26, .ref h4, .ref h27, .ref h28, .int 0, .ref h29, .ref h30, .int 0, .ref h31, .ref h32, .ref h33, .ref h34, .ref h35, .int 0, .ref h36, .ref h37, .ref h38, .int 0, .ref h39, .ref h40, .ref h41, .int 0, .int 0, .ref h42, .ref h43, .ref h44, .int 0, .long 0, .long 0, .ref h45, .ref h46, .ref h47, .ref h48, .ref h49, .ref h50, .ref h51, .ref h52, .ref h53, .ref h54, .int 0, .int 0, .ref h55, .ref h56, .ref h57, .ref h58, .ref h59, .ref h60, .ref h61, .ref h62, .ref h63, .int 0, .int 0, .int 0, .int 0, .long 0, .ref h64, .ref h65, .ref h66, .int 0, .int 0, .long 0]))]) (fun _ => rfl) (fun qs2 H locs hT => ?_)
  refine lv_istore (pc := 610) (lv' := [(6, .int 0), (5, .int 1), (0, .ref b), (1, .ref h0), (2, .ref h3), (3, .ref h6), (4, .int 0)]) hx hb dL_law_610 hl (by decide) rfl (fun ls hl => ?_)
  refine lv_aload_n (pc := 612) hx hb dL_law_612 rfl (lv_at hl 4 rfl) ?_
  refine z_cVI (pc := 613) hx hb hml hown hts hK hA hT lkV_RL_96 (k1051_X12_thrown l G cy h3 h5 h26 h4 h27 h28 h29 h30 h31 h32 h33 h34 h35 h36 h37 h38 h39 h40 h41 h42 h43 h44 h45 h46 h47 h48 h49 h50 h51 h52 h53 h54 h55 h56 h57 h58 h59 h60 h61 h62 h63 h64 h65 h66) [0] [] rfl rfl rfl rfl rfl 0 rfl rfl (by decide) rfl hl.1 rfl (Nat.le_of_ble_eq_true rfl) dL_law_613 ⟨Nat.le_of_ble_eq_true rfl, Nat.le_of_ble_eq_true rfl⟩ (fun _ => [(h3, .inr (12, [.int 1, .ref h5, .int 0, .int 0, .int 0, .int (-1), .int 0, .int 0, .ref h26, .ref h4, .ref h27, .ref h28, .int 0, .ref h29, .ref h30, .int 0, .ref h31, .ref h32, .ref h33, .ref h34, .ref h35, .int 0, .ref h36, .ref h37, .ref h38, .int 0, .ref h39, .ref h40, .ref h41, .int 0, .int 0, .ref h42, .ref h43, .ref h44, .int 0, .long 0, .long 0, .ref h45, .ref h46, .ref h47, .ref h48, .ref h49, .ref h50, .ref h51, .ref h52, .ref h53, .ref h54, .int 0, .int 0, .ref h55, .ref h56, .ref h57, .ref h58, .ref h59, .ref h60, .ref h61, .ref h62, .ref h63, .int 0, .int 0, .int 0, .int 0, .long 0, .ref h64, .ref h65, .ref h66, .int 0, .int 0, .long 0]))]) (fun _ => rfl) (fun qs3 H locs hT => ?_)
  refine lv_iload (pc := 616) hx hb dL_law_616 (lv_at hl 1 rfl) ?_
  refine zb_icmp_eq_t (pc := 618) (tgt := 623) hx hb dL_law_618 (by decide) (by decide) ?_
  refine lv_iload (pc := 623) hx hb dL_law_623 (lv_at hl 1 rfl) ?_
  refine zb_if_ne_t (pc := 625) (tgt := 640) hx hb dL_law_625 (by decide) (by decide) ?_
  refine lv_goto (pc := 640) (tgt := 1719) hx hb dL_law_640 (by decide) ?_
  exact q_end hx hb hr hlk hX hbl hT (lv_sub hl [2, 6] rfl) (Nat.le_of_ble_eq_true rfl) (Nat.le_of_ble_eq_true rfl)
set_option maxHeartbeats 4000000 in
set_option maxRecDepth 100000 in
theorem q_arc_1_big_5 {p : Program} {l : Launch} {e : Env} {s : State} {m : MethodId} {below : List Frame} {meth : Method} {c : Code} {H : Heap} {locs : List Loc} {ls : Array Slot} {G : va_G} {cy : Nat → ClassId} {b : Nat} {xs : Nat → Int32} (C : zC l G cy p s m meth c b 6 xs) (h0 h1 h2 h3 h4 h5 h6 h7 h8 h9 h10 h11 h12 h13 h14 h15 h16 h17 h18 h19 h20 h21 h22 h23 h24 h25 h26 h27 h28 h29 h30 h31 h32 h33 h34 h35 h36 h37 h38 h39 h40 h41 h42 h43 h44 h45 h46 h47 h48 h49 h50 h51 h52 h53 h54 h55 h56 h57 h58 h59 h60 h61 h62 h63 h64 h65 h66 : Nat) (gx : Nat → Nat) (gm : Nat → Nat) (hs1 : xs 1 = 5) (hb1 : ¬ ((xs 2) : Int32) < 0) (hb2 : ((-1) : Int32) < (xs 2)) (hT : zT G (fun q => s.heap.size ≤ q) s.heap H locs [(h0, .inr (11, [.ref h1, .ref h7, .ref h8, .ref h9, .ref h10, .ref h11, .ref h12, .ref h13, .ref h14, .ref h15, .ref h2, .int (-1), .int (-1), .int (-1), .int (-1)])), (h1, .inl (cy 3, 6, .inr (.inr (.inr (.inr (fun i => some (gx i))))))), ((gx 5), .inr (3, [.int 1, .int 0, .int 0, .int 0, .ref h16, .ref h17, .ref h18, .ref h19, .ref h20, .ref h21, .ref h22, .ref h23, .ref h24, .ref h25])), (h2, .inl (cy 0, 3, .inl (kc 0))), (h3, .inr (12, [.int 0, .ref h5, .int 0, .int 0, .int 0, .int (-1), .int 0, .int 0, .ref h26, .ref h4, .ref h27, .ref h28, .int 0, .ref h29, .ref h30, .int 0, .ref h31, .ref h32, .ref h33, .ref h34, .ref h35, .int 0, .ref h36, .ref h37, .ref h38, .int 0, .ref h39, .ref h40, .ref h41, .int 0, .int 0, .ref h42, .ref h43, .ref h44, .int 0, .long 0, .long 0, .ref h45, .ref h46, .ref h47, .ref h48, .ref h49, .ref h50, .ref h51, .ref h52, .ref h53, .ref h54, .int 0, .int 0, .ref h55, .ref h56, .ref h57, .ref h58, .ref h59, .ref h60, .ref h61, .ref h62, .ref h63, .int 0, .int 0, .int 0, .int 0, .long 0, .ref h64, .ref h65, .ref h66, .int 0, .int 0, .long 0])), (h4, .inl (cy 4, 6, .inr (.inr (.inr (.inr (fun i => some (gm i))))))), ((gm 5), .inl (cy 0, 643, .inl (zfil (upd (kc 0) 0 1) 3 43 (-1)))), (h5, .inl (cy 0, 3, .inl (kc 0)))]) (hl : lv_has ls 8 [(0, .ref b), (1, .ref h0), (2, .ref h3), (3, .ref h6), (4, .int 0)]) : W p l e (zR 1000 600002 7302232) s m #[Value.ref b] below meth c H locs 476 284354 (lw_Z below #[Value.ref b] s) (F0 m 563 ls []) := by
  obtain ⟨hl0, hx, hb, hr, hml, hown, hts, hX, hbl, hlk, hK, hE, q1, v1, q2, v2, hS⟩ := C
  have hA : ∀ q : Nat, s.heap.size ≤ q → (fun q => s.heap.size ≤ q) q := fun _ h => h
  have hbA : ¬ (fun q => s.heap.size ≤ q) b := Nat.not_le.mpr hbl
  refine lv_aload_n (pc := 563) hx hb dL_law_563 rfl (lv_at hl 1 rfl) ?_
  refine lv_aload_n (pc := 564) hx hb dL_law_564 rfl (lv_at hl 0 rfl) ?_
  refine lv_iload (pc := 565) hx hb dL_law_565 (lv_at hl 4 rfl) ?_
  refine lv_iconst (pc := 567) (v := 1) hx hb dL_law_567 (by decide) ?_
  refine z_iadd (pc := 568) (v := 1) hx hb dL_law_568 (by decide) ?_
  refine z_sld (pc := 569) (v := 5) hx hb hX hbl hbA hT 1 rfl (by decide) hs1 dL_law_569 ?_
  refine lv_aload_n (pc := 570) hx hb dL_law_570 rfl (lv_at hl 0 rfl) ?_
  refine lv_iload (pc := 571) hx hb dL_law_571 (lv_at hl 4 rfl) ?_
  refine lv_iconst (pc := 573) (v := 2) hx hb dL_law_573 (by decide) ?_
  refine z_iadd (pc := 574) (v := 2) hx hb dL_law_574 (by decide) ?_
  refine z_sld (pc := 575) (v := (xs 2)) hx hb hX hbl hbA hT 2 rfl (by decide) rfl dL_law_575 ?_
  refine lv_aload_n (pc := 576) hx hb dL_law_576 rfl (lv_at hl 0 rfl) ?_
  refine lv_iload (pc := 577) hx hb dL_law_577 (lv_at hl 4 rfl) ?_
  refine lv_iconst (pc := 579) (v := 3) hx hb dL_law_579 (by decide) ?_
  refine z_iadd (pc := 580) (v := 3) hx hb dL_law_580 (by decide) ?_
  refine z_sld (pc := 581) (v := (xs 3)) hx hb hX hbl hbA hT 3 rfl (by decide) rfl dL_law_581 ?_
  refine lv_aload_n (pc := 582) hx hb dL_law_582 rfl (lv_at hl 3 rfl) ?_
  refine z_eHI (pc := 583) zE_ok hE hx hb hml hown hts hK hA hT lkH_RL_119 ((k843_L_arc l G cy hl0 h0 h1 h2 h6 h7 h8 h9 h10 h11 h12 h13 h14 h15 h16 h17 h18 h19 h20 h21 h22 h23 h24 h25 (xs 2) (xs 3) 5 (gx) (by omega) (by omega) hb1).e) [0, 1, 2, 3] [4, 5, 6, 7] rfl rfl rfl rfl rfl (by decide) rfl hl.1 rfl (Nat.le_of_ble_eq_true rfl) dL_law_583 ⟨Nat.le_of_ble_eq_true rfl, Nat.le_of_ble_eq_true rfl⟩ (fun _ => [(h3, .inr (12, [.int 0, .ref h5, .int 0, .int 0, .int 0, .int (-1), .int 0, .int 0, .ref h26, .ref h4, .ref h27, .ref h28, .int 0, .ref h29, .ref h30, .int 0, .ref h31, .ref h32, .ref h33, .ref h34, .ref h35, .int 0, .ref h36, .ref h37, .ref h38, .int 0, .ref h39, .ref h40, .ref h41, .int 0, .int 0, .ref h42, .ref h43, .ref h44, .int 0, .long 0, .long 0, .ref h45, .ref h46, .ref h47, .ref h48, .ref h49, .ref h50, .ref h51, .ref h52, .ref h53, .ref h54, .int 0, .int 0, .ref h55, .ref h56, .ref h57, .ref h58, .ref h59, .ref h60, .ref h61, .ref h62, .ref h63, .int 0, .int 0, .int 0, .int 0, .long 0, .ref h64, .ref h65, .ref h66, .int 0, .int 0, .long 0])), (h4, .inl (cy 4, 6, .inr (.inr (.inr (.inr (fun i => some (gm i))))))), ((gm 5), .inl (cy 0, 643, .inl (zfil (upd (kc 0) 0 1) 3 43 (-1)))), (h5, .inl (cy 0, 3, .inl (kc 0)))]) (fun _ => rfl) (fun qs1 H locs hT => ?_)
  refine lv_istore (pc := 586) (lv' := [(5, .int 1), (0, .ref b), (1, .ref h0), (2, .ref h3), (3, .ref h6), (4, .int 0)]) hx hb dL_law_586 hl (by decide) rfl (fun ls hl => ?_)
  refine lv_aload_n (pc := 588) hx hb dL_law_588 rfl (lv_at hl 3 rfl) ?_
  refine lv_aload_n (pc := 589) hx hb dL_law_589 rfl (lv_at hl 1 rfl) ?_
  refine lv_iload (pc := 590) hx hb dL_law_590 (lv_at hl 5 rfl) ?_
  refine lv_iconst (pc := 592) (v := 1) hx hb dL_law_592 (by decide) ?_
  refine z_iadd (pc := 593) (v := 1) hx hb dL_law_593 (by decide) ?_
  refine z_sld (pc := 594) (v := 5) hx hb hX hbl hbA hT 1 rfl (by decide) hs1 dL_law_594 ?_
  refine lv_aload_n (pc := 595) hx hb dL_law_595 rfl (lv_at hl 1 rfl) ?_
  refine lv_iload (pc := 596) hx hb dL_law_596 (lv_at hl 5 rfl) ?_
  refine lv_iconst (pc := 598) (v := 2) hx hb dL_law_598 (by decide) ?_
  refine z_iadd (pc := 599) (v := 2) hx hb dL_law_599 (by decide) ?_
  refine z_sld (pc := 600) (v := (xs 2)) hx hb hX hbl hbA hT 2 rfl (by decide) rfl dL_law_600 ?_
  refine lv_aload_n (pc := 601) hx hb dL_law_601 rfl (lv_at hl 1 rfl) ?_
  refine lv_iload (pc := 602) hx hb dL_law_602 (lv_at hl 5 rfl) ?_
  refine lv_iconst (pc := 604) (v := 3) hx hb dL_law_604 (by decide) ?_
  refine z_iadd (pc := 605) (v := 3) hx hb dL_law_605 (by decide) ?_
  refine z_sld (pc := 606) (v := (xs 3)) hx hb hX hbl hbA hT 3 rfl (by decide) rfl dL_law_606 ?_
  refine z_cVI (pc := 607) hx hb hml hown hts hK hA hT lkV_RL_121 (k684_X12_arc l G cy h3 h4 h5 h26 h27 h28 h29 h30 h31 h32 h33 h34 h35 h36 h37 h38 h39 h40 h41 h42 h43 h44 h45 h46 h47 h48 h49 h50 h51 h52 h53 h54 h55 h56 h57 h58 h59 h60 h61 h62 h63 h64 h65 h66 (xs 2) (xs 3) (gm) hb1 hb2) [0, 1, 2, 3] [] rfl rfl rfl rfl rfl 0 rfl rfl (by decide) rfl hl.1 rfl (Nat.le_of_ble_eq_true rfl) dL_law_607 ⟨Nat.le_of_ble_eq_true rfl, Nat.le_of_ble_eq_true rfl⟩ (fun _ => [(h3, .inr (12, [.int 1, .ref h5, .int 0, .int 0, .int 0, .int (-1), .int 0, .int 0, .ref h26, .ref h4, .ref h27, .ref h28, .int 0, .ref h29, .ref h30, .int 0, .ref h31, .ref h32, .ref h33, .ref h34, .ref h35, .int 0, .ref h36, .ref h37, .ref h38, .int 0, .ref h39, .ref h40, .ref h41, .int 0, .int 0, .ref h42, .ref h43, .ref h44, .int 0, .long 0, .long 0, .ref h45, .ref h46, .ref h47, .ref h48, .ref h49, .ref h50, .ref h51, .ref h52, .ref h53, .ref h54, .int 0, .int 0, .ref h55, .ref h56, .ref h57, .ref h58, .ref h59, .ref h60, .ref h61, .ref h62, .ref h63, .int 0, .int 0, .int 0, .int 0, .long 0, .ref h64, .ref h65, .ref h66, .int 0, .int 0, .long 0]))]) (fun _ => rfl) (fun qs2 H locs hT => ?_)
  refine lv_istore (pc := 610) (lv' := [(6, .int 0), (5, .int 1), (0, .ref b), (1, .ref h0), (2, .ref h3), (3, .ref h6), (4, .int 0)]) hx hb dL_law_610 hl (by decide) rfl (fun ls hl => ?_)
  refine lv_aload_n (pc := 612) hx hb dL_law_612 rfl (lv_at hl 4 rfl) ?_
  refine z_cVI (pc := 613) hx hb hml hown hts hK hA hT lkV_RL_96 (k1051_X12_thrown l G cy h3 h5 h26 h4 h27 h28 h29 h30 h31 h32 h33 h34 h35 h36 h37 h38 h39 h40 h41 h42 h43 h44 h45 h46 h47 h48 h49 h50 h51 h52 h53 h54 h55 h56 h57 h58 h59 h60 h61 h62 h63 h64 h65 h66) [0] [] rfl rfl rfl rfl rfl 0 rfl rfl (by decide) rfl hl.1 rfl (Nat.le_of_ble_eq_true rfl) dL_law_613 ⟨Nat.le_of_ble_eq_true rfl, Nat.le_of_ble_eq_true rfl⟩ (fun _ => [(h3, .inr (12, [.int 1, .ref h5, .int 0, .int 0, .int 0, .int (-1), .int 0, .int 0, .ref h26, .ref h4, .ref h27, .ref h28, .int 0, .ref h29, .ref h30, .int 0, .ref h31, .ref h32, .ref h33, .ref h34, .ref h35, .int 0, .ref h36, .ref h37, .ref h38, .int 0, .ref h39, .ref h40, .ref h41, .int 0, .int 0, .ref h42, .ref h43, .ref h44, .int 0, .long 0, .long 0, .ref h45, .ref h46, .ref h47, .ref h48, .ref h49, .ref h50, .ref h51, .ref h52, .ref h53, .ref h54, .int 0, .int 0, .ref h55, .ref h56, .ref h57, .ref h58, .ref h59, .ref h60, .ref h61, .ref h62, .ref h63, .int 0, .int 0, .int 0, .int 0, .long 0, .ref h64, .ref h65, .ref h66, .int 0, .int 0, .long 0]))]) (fun _ => rfl) (fun qs3 H locs hT => ?_)
  refine lv_iload (pc := 616) hx hb dL_law_616 (lv_at hl 1 rfl) ?_
  refine zb_icmp_eq_t (pc := 618) (tgt := 623) hx hb dL_law_618 (by decide) (by decide) ?_
  refine lv_iload (pc := 623) hx hb dL_law_623 (lv_at hl 1 rfl) ?_
  refine zb_if_ne_t (pc := 625) (tgt := 640) hx hb dL_law_625 (by decide) (by decide) ?_
  refine lv_goto (pc := 640) (tgt := 1719) hx hb dL_law_640 (by decide) ?_
  exact q_end hx hb hr hlk hX hbl hT (lv_sub hl [2, 6] rfl) (Nat.le_of_ble_eq_true rfl) (Nat.le_of_ble_eq_true rfl)
set_option maxHeartbeats 4000000 in
set_option maxRecDepth 100000 in
theorem q_last_0_neg {p : Program} {l : Launch} {e : Env} {s : State} {m : MethodId} {below : List Frame} {meth : Method} {c : Code} {H : Heap} {locs : List Loc} {ls : Array Slot} {G : va_G} {cy : Nat → ClassId} {b : Nat} {xs : Nat → Int32} (C : zC l G cy p s m meth c b 6 xs) (h0 h1 h2 h3 h4 h5 h6 h7 h8 h9 h10 h11 h12 h13 h14 h15 h16 h17 h18 h19 h20 h21 h22 h23 h24 h25 h26 h27 h28 h29 h30 h31 h32 h33 h34 h35 h36 h37 h38 h39 h40 h41 h42 h43 h44 h45 h46 h47 h48 h49 h50 h51 h52 h53 h54 h55 h56 : Nat) (hneg : ((xs 1) : Int32) < 0) (hT : zT G (fun q => s.heap.size ≤ q) s.heap H locs [(h0, .inr (11, [.ref h5, .ref h6, .ref h7, .ref h8, .ref h9, .ref h10, .ref h11, .ref h12, .ref h13, .ref h14, .ref h1, .int (-1), .int (-1), .int (-1), .int (-1)])), (h1, .inl (cy 0, 3, .inl (kc 0))), (h2, .inr (12, [.int 0, .ref h3, .int 0, .int 0, .int 0, .int (-1), .int 0, .int 0, .ref h15, .ref h16, .ref h17, .ref h18, .int 0, .ref h19, .ref h20, .int 0, .ref h21, .ref h22, .ref h23, .ref h24, .ref h25, .int 0, .ref h26, .ref h27, .ref h28, .int 0, .ref h29, .ref h30, .ref h31, .int 0, .int 0, .ref h32, .ref h33, .ref h34, .int 0, .long 0, .long 0, .ref h35, .ref h36, .ref h37, .ref h38, .ref h39, .ref h40, .ref h41, .ref h42, .ref h43, .ref h44, .int 0, .int 0, .ref h45, .ref h46, .ref h47, .ref h48, .ref h49, .ref h50, .ref h51, .ref h52, .ref h53, .int 0, .int 0, .int 0, .int 0, .long 0, .ref h54, .ref h55, .ref h56, .int 0, .int 0, .long 0])), (h3, .inl (cy 0, 3, .inl (kc 0)))]) (hl : lv_has ls 8 [(0, .ref b), (1, .ref h0), (2, .ref h2), (3, .ref h4), (4, .int 0)]) : W p l e (zR 1000 600002 7302232) s m #[Value.ref b] below meth c H locs 476 284354 (lw_Z below #[Value.ref b] s) (F0 m 643 ls []) := by
  obtain ⟨hl0, hx, hb, hr, hml, hown, hts, hX, hbl, hlk, hK, hE, q1, v1, q2, v2, hS⟩ := C
  have hA : ∀ q : Nat, s.heap.size ≤ q → (fun q => s.heap.size ≤ q) q := fun _ h => h
  have hbA : ¬ (fun q => s.heap.size ≤ q) b := Nat.not_le.mpr hbl
  refine lv_aload_n (pc := 643) hx hb dL_law_643 rfl (lv_at hl 1 rfl) ?_
  refine lv_aload_n (pc := 644) hx hb dL_law_644 rfl (lv_at hl 0 rfl) ?_
  refine lv_iload (pc := 645) hx hb dL_law_645 (lv_at hl 4 rfl) ?_
  refine lv_iconst (pc := 647) (v := 1) hx hb dL_law_647 (by decide) ?_
  refine z_iadd (pc := 648) (v := 1) hx hb dL_law_648 (by decide) ?_
  refine z_sld (pc := 649) (v := (xs 1)) hx hb hX hbl hbA hT 1 rfl (by decide) rfl dL_law_649 ?_
  refine lv_aload_n (pc := 650) hx hb dL_law_650 rfl (lv_at hl 0 rfl) ?_
  refine lv_iload (pc := 651) hx hb dL_law_651 (lv_at hl 4 rfl) ?_
  refine lv_iconst (pc := 653) (v := 2) hx hb dL_law_653 (by decide) ?_
  refine z_iadd (pc := 654) (v := 2) hx hb dL_law_654 (by decide) ?_
  refine z_sld (pc := 655) (v := (xs 2)) hx hb hX hbl hbA hT 2 rfl (by decide) rfl dL_law_655 ?_
  refine lv_aload_n (pc := 656) hx hb dL_law_656 rfl (lv_at hl 3 rfl) ?_
  refine z_eHI (pc := 657) zE_ok hE hx hb hml hown hts hK hA hT lkH_RL_122 ((k844_L_last l G cy hl0 h0 h1 h4 h5 h6 h7 h8 h9 h10 h11 h12 h13 h14 (xs 1) (xs 2) hneg).e) [0, 1] [2, 3] rfl rfl rfl rfl rfl (by decide) rfl hl.1 rfl (Nat.le_of_ble_eq_true rfl) dL_law_657 ⟨Nat.le_of_ble_eq_true rfl, Nat.le_of_ble_eq_true rfl⟩ (fun _ => [(h2, .inr (12, [.int 0, .ref h3, .int 0, .int 0, .int 0, .int (-1), .int 0, .int 0, .ref h15, .ref h16, .ref h17, .ref h18, .int 0, .ref h19, .ref h20, .int 0, .ref h21, .ref h22, .ref h23, .ref h24, .ref h25, .int 0, .ref h26, .ref h27, .ref h28, .int 0, .ref h29, .ref h30, .ref h31, .int 0, .int 0, .ref h32, .ref h33, .ref h34, .int 0, .long 0, .long 0, .ref h35, .ref h36, .ref h37, .ref h38, .ref h39, .ref h40, .ref h41, .ref h42, .ref h43, .ref h44, .int 0, .int 0, .ref h45, .ref h46, .ref h47, .ref h48, .ref h49, .ref h50, .ref h51, .ref h52, .ref h53, .int 0, .int 0, .int 0, .int 0, .long 0, .ref h54, .ref h55, .ref h56, .int 0, .int 0, .long 0])), (h3, .inl (cy 0, 3, .inl (kc 0)))]) (fun _ => rfl) (fun qs1 H locs hT => ?_)
  refine lv_istore (pc := 660) (lv' := [(5, .int 1), (0, .ref b), (1, .ref h0), (2, .ref h2), (3, .ref h4), (4, .int 0)]) hx hb dL_law_660 hl (by decide) rfl (fun ls hl => ?_)
  refine lv_aload_n (pc := 662) hx hb dL_law_662 rfl (lv_at hl 3 rfl) ?_
  refine lv_aload_n (pc := 663) hx hb dL_law_663 rfl (lv_at hl 1 rfl) ?_
  refine lv_iload (pc := 664) hx hb dL_law_664 (lv_at hl 5 rfl) ?_
  refine lv_iconst (pc := 666) (v := 1) hx hb dL_law_666 (by decide) ?_
  refine z_iadd (pc := 667) (v := 1) hx hb dL_law_667 (by decide) ?_
  refine z_sld (pc := 668) (v := (xs 1)) hx hb hX hbl hbA hT 1 rfl (by decide) rfl dL_law_668 ?_
  refine lv_aload_n (pc := 669) hx hb dL_law_669 rfl (lv_at hl 1 rfl) ?_
  refine lv_iload (pc := 670) hx hb dL_law_670 (lv_at hl 5 rfl) ?_
  refine lv_iconst (pc := 672) (v := 2) hx hb dL_law_672 (by decide) ?_
  refine z_iadd (pc := 673) (v := 2) hx hb dL_law_673 (by decide) ?_
  refine z_sld (pc := 674) (v := (xs 2)) hx hb hX hbl hbA hT 2 rfl (by decide) rfl dL_law_674 ?_
  refine z_cVI (pc := 675) hx hb hml hown hts hK hA hT lkV_RL_124 (k686_X12_last l G cy h2 h3 h15 h16 h17 h18 h19 h20 h21 h22 h23 h24 h25 h26 h27 h28 h29 h30 h31 h32 h33 h34 h35 h36 h37 h38 h39 h40 h41 h42 h43 h44 h45 h46 h47 h48 h49 h50 h51 h52 h53 h54 h55 h56 (xs 1) (xs 2) hneg) [0, 1] [] rfl rfl rfl rfl rfl 0 rfl rfl (by decide) rfl hl.1 rfl (Nat.le_of_ble_eq_true rfl) dL_law_675 ⟨Nat.le_of_ble_eq_true rfl, Nat.le_of_ble_eq_true rfl⟩ (fun _ => [(h2, .inr (12, [.int 1, .ref h3, .int 0, .int 0, .int 0, .int (-1), .int 0, .int 0, .ref h15, .ref h16, .ref h17, .ref h18, .int 0, .ref h19, .ref h20, .int 0, .ref h21, .ref h22, .ref h23, .ref h24, .ref h25, .int 0, .ref h26, .ref h27, .ref h28, .int 0, .ref h29, .ref h30, .ref h31, .int 0, .int 0, .ref h32, .ref h33, .ref h34, .int 0, .long 0, .long 0, .ref h35, .ref h36, .ref h37, .ref h38, .ref h39, .ref h40, .ref h41, .ref h42, .ref h43, .ref h44, .int 0, .int 0, .ref h45, .ref h46, .ref h47, .ref h48, .ref h49, .ref h50, .ref h51, .ref h52, .ref h53, .int 0, .int 0, .int 0, .int 0, .long 0, .ref h54, .ref h55, .ref h56, .int 0, .int 0, .long 0]))]) (fun _ => rfl) (fun qs2 H locs hT => ?_)
  refine lv_istore (pc := 678) (lv' := [(6, .int 0), (5, .int 1), (0, .ref b), (1, .ref h0), (2, .ref h2), (3, .ref h4), (4, .int 0)]) hx hb dL_law_678 hl (by decide) rfl (fun ls hl => ?_)
  refine lv_aload_n (pc := 680) hx hb dL_law_680 rfl (lv_at hl 4 rfl) ?_
  refine z_cVI (pc := 681) hx hb hml hown hts hK hA hT lkV_RL_96 (k1051_X12_thrown l G cy h2 h3 h15 h16 h17 h18 h19 h20 h21 h22 h23 h24 h25 h26 h27 h28 h29 h30 h31 h32 h33 h34 h35 h36 h37 h38 h39 h40 h41 h42 h43 h44 h45 h46 h47 h48 h49 h50 h51 h52 h53 h54 h55 h56) [0] [] rfl rfl rfl rfl rfl 0 rfl rfl (by decide) rfl hl.1 rfl (Nat.le_of_ble_eq_true rfl) dL_law_681 ⟨Nat.le_of_ble_eq_true rfl, Nat.le_of_ble_eq_true rfl⟩ (fun _ => [(h2, .inr (12, [.int 1, .ref h3, .int 0, .int 0, .int 0, .int (-1), .int 0, .int 0, .ref h15, .ref h16, .ref h17, .ref h18, .int 0, .ref h19, .ref h20, .int 0, .ref h21, .ref h22, .ref h23, .ref h24, .ref h25, .int 0, .ref h26, .ref h27, .ref h28, .int 0, .ref h29, .ref h30, .ref h31, .int 0, .int 0, .ref h32, .ref h33, .ref h34, .int 0, .long 0, .long 0, .ref h35, .ref h36, .ref h37, .ref h38, .ref h39, .ref h40, .ref h41, .ref h42, .ref h43, .ref h44, .int 0, .int 0, .ref h45, .ref h46, .ref h47, .ref h48, .ref h49, .ref h50, .ref h51, .ref h52, .ref h53, .int 0, .int 0, .int 0, .int 0, .long 0, .ref h54, .ref h55, .ref h56, .int 0, .int 0, .long 0]))]) (fun _ => rfl) (fun qs3 H locs hT => ?_)
  refine lv_iload (pc := 684) hx hb dL_law_684 (lv_at hl 1 rfl) ?_
  refine zb_icmp_eq_t (pc := 686) (tgt := 691) hx hb dL_law_686 (by decide) (by decide) ?_
  refine lv_iload (pc := 691) hx hb dL_law_691 (lv_at hl 1 rfl) ?_
  refine zb_if_ne_t (pc := 693) (tgt := 708) hx hb dL_law_693 (by decide) (by decide) ?_
  refine lv_goto (pc := 708) (tgt := 1719) hx hb dL_law_708 (by decide) ?_
  exact q_end hx hb hr hlk hX hbl hT (lv_sub hl [2, 6] rfl) (Nat.le_of_ble_eq_true rfl) (Nat.le_of_ble_eq_true rfl)
set_option maxHeartbeats 4000000 in
set_option maxRecDepth 100000 in
theorem q_last_0_big {p : Program} {l : Launch} {e : Env} {s : State} {m : MethodId} {below : List Frame} {meth : Method} {c : Code} {H : Heap} {locs : List Loc} {ls : Array Slot} {G : va_G} {cy : Nat → ClassId} {b : Nat} {xs : Nat → Int32} (C : zC l G cy p s m meth c b 6 xs) (h0 h1 h2 h3 h4 h5 h6 h7 h8 h9 h10 h11 h12 h13 h14 h15 h16 h17 h18 h19 h20 h21 h22 h23 h24 h25 h26 h27 h28 h29 h30 h31 h32 h33 h34 h35 h36 h37 h38 h39 h40 h41 h42 h43 h44 h45 h46 h47 h48 h49 h50 h51 h52 h53 h54 h55 h56 : Nat) (hb1 : ¬ ((xs 1) : Int32) < 0) (hb2 : ¬ ((xs 1) : Int32) < 6) (hb3 : (5 : Int32) < (xs 1)) (hT : zT G (fun q => s.heap.size ≤ q) s.heap H locs [(h0, .inr (11, [.ref h5, .ref h6, .ref h7, .ref h8, .ref h9, .ref h10, .ref h11, .ref h12, .ref h13, .ref h14, .ref h1, .int (-1), .int (-1), .int (-1), .int (-1)])), (h1, .inl (cy 0, 3, .inl (kc 0))), (h2, .inr (12, [.int 0, .ref h3, .int 0, .int 0, .int 0, .int (-1), .int 0, .int 0, .ref h15, .ref h16, .ref h17, .ref h18, .int 0, .ref h19, .ref h20, .int 0, .ref h21, .ref h22, .ref h23, .ref h24, .ref h25, .int 0, .ref h26, .ref h27, .ref h28, .int 0, .ref h29, .ref h30, .ref h31, .int 0, .int 0, .ref h32, .ref h33, .ref h34, .int 0, .long 0, .long 0, .ref h35, .ref h36, .ref h37, .ref h38, .ref h39, .ref h40, .ref h41, .ref h42, .ref h43, .ref h44, .int 0, .int 0, .ref h45, .ref h46, .ref h47, .ref h48, .ref h49, .ref h50, .ref h51, .ref h52, .ref h53, .int 0, .int 0, .int 0, .int 0, .long 0, .ref h54, .ref h55, .ref h56, .int 0, .int 0, .long 0])), (h3, .inl (cy 0, 3, .inl (kc 0)))]) (hl : lv_has ls 8 [(0, .ref b), (1, .ref h0), (2, .ref h2), (3, .ref h4), (4, .int 0)]) : W p l e (zR 1000 600002 7302232) s m #[Value.ref b] below meth c H locs 476 284354 (lw_Z below #[Value.ref b] s) (F0 m 643 ls []) := by
  obtain ⟨hl0, hx, hb, hr, hml, hown, hts, hX, hbl, hlk, hK, hE, q1, v1, q2, v2, hS⟩ := C
  have hA : ∀ q : Nat, s.heap.size ≤ q → (fun q => s.heap.size ≤ q) q := fun _ h => h
  have hbA : ¬ (fun q => s.heap.size ≤ q) b := Nat.not_le.mpr hbl
  refine lv_aload_n (pc := 643) hx hb dL_law_643 rfl (lv_at hl 1 rfl) ?_
  refine lv_aload_n (pc := 644) hx hb dL_law_644 rfl (lv_at hl 0 rfl) ?_
  refine lv_iload (pc := 645) hx hb dL_law_645 (lv_at hl 4 rfl) ?_
  refine lv_iconst (pc := 647) (v := 1) hx hb dL_law_647 (by decide) ?_
  refine z_iadd (pc := 648) (v := 1) hx hb dL_law_648 (by decide) ?_
  refine z_sld (pc := 649) (v := (xs 1)) hx hb hX hbl hbA hT 1 rfl (by decide) rfl dL_law_649 ?_
  refine lv_aload_n (pc := 650) hx hb dL_law_650 rfl (lv_at hl 0 rfl) ?_
  refine lv_iload (pc := 651) hx hb dL_law_651 (lv_at hl 4 rfl) ?_
  refine lv_iconst (pc := 653) (v := 2) hx hb dL_law_653 (by decide) ?_
  refine z_iadd (pc := 654) (v := 2) hx hb dL_law_654 (by decide) ?_
  refine z_sld (pc := 655) (v := (xs 2)) hx hb hX hbl hbA hT 2 rfl (by decide) rfl dL_law_655 ?_
  refine lv_aload_n (pc := 656) hx hb dL_law_656 rfl (lv_at hl 3 rfl) ?_
  refine z_eHI (pc := 657) zE_ok hE hx hb hml hown hts hK hA hT lkH_RL_122 ((k845_L_last l G cy hl0 h0 h1 h4 h5 h6 h7 h8 h9 h10 h11 h12 h13 h14 (xs 1) (xs 2) hb1 hb2).e) [0, 1] [2, 3] rfl rfl rfl rfl rfl (by decide) rfl hl.1 rfl (Nat.le_of_ble_eq_true rfl) dL_law_657 ⟨Nat.le_of_ble_eq_true rfl, Nat.le_of_ble_eq_true rfl⟩ (fun _ => [(h2, .inr (12, [.int 0, .ref h3, .int 0, .int 0, .int 0, .int (-1), .int 0, .int 0, .ref h15, .ref h16, .ref h17, .ref h18, .int 0, .ref h19, .ref h20, .int 0, .ref h21, .ref h22, .ref h23, .ref h24, .ref h25, .int 0, .ref h26, .ref h27, .ref h28, .int 0, .ref h29, .ref h30, .ref h31, .int 0, .int 0, .ref h32, .ref h33, .ref h34, .int 0, .long 0, .long 0, .ref h35, .ref h36, .ref h37, .ref h38, .ref h39, .ref h40, .ref h41, .ref h42, .ref h43, .ref h44, .int 0, .int 0, .ref h45, .ref h46, .ref h47, .ref h48, .ref h49, .ref h50, .ref h51, .ref h52, .ref h53, .int 0, .int 0, .int 0, .int 0, .long 0, .ref h54, .ref h55, .ref h56, .int 0, .int 0, .long 0])), (h3, .inl (cy 0, 3, .inl (kc 0)))]) (fun _ => rfl) (fun qs1 H locs hT => ?_)
  refine lv_istore (pc := 660) (lv' := [(5, .int 1), (0, .ref b), (1, .ref h0), (2, .ref h2), (3, .ref h4), (4, .int 0)]) hx hb dL_law_660 hl (by decide) rfl (fun ls hl => ?_)
  refine lv_aload_n (pc := 662) hx hb dL_law_662 rfl (lv_at hl 3 rfl) ?_
  refine lv_aload_n (pc := 663) hx hb dL_law_663 rfl (lv_at hl 1 rfl) ?_
  refine lv_iload (pc := 664) hx hb dL_law_664 (lv_at hl 5 rfl) ?_
  refine lv_iconst (pc := 666) (v := 1) hx hb dL_law_666 (by decide) ?_
  refine z_iadd (pc := 667) (v := 1) hx hb dL_law_667 (by decide) ?_
  refine z_sld (pc := 668) (v := (xs 1)) hx hb hX hbl hbA hT 1 rfl (by decide) rfl dL_law_668 ?_
  refine lv_aload_n (pc := 669) hx hb dL_law_669 rfl (lv_at hl 1 rfl) ?_
  refine lv_iload (pc := 670) hx hb dL_law_670 (lv_at hl 5 rfl) ?_
  refine lv_iconst (pc := 672) (v := 2) hx hb dL_law_672 (by decide) ?_
  refine z_iadd (pc := 673) (v := 2) hx hb dL_law_673 (by decide) ?_
  refine z_sld (pc := 674) (v := (xs 2)) hx hb hX hbl hbA hT 2 rfl (by decide) rfl dL_law_674 ?_
  refine z_cVI (pc := 675) hx hb hml hown hts hK hA hT lkV_RL_124 (k688_X12_last l G cy h2 h3 h15 h16 h17 h18 h19 h20 h21 h22 h23 h24 h25 h26 h27 h28 h29 h30 h31 h32 h33 h34 h35 h36 h37 h38 h39 h40 h41 h42 h43 h44 h45 h46 h47 h48 h49 h50 h51 h52 h53 h54 h55 h56 (xs 1) (xs 2) hb1 hb3) [0, 1] [] rfl rfl rfl rfl rfl 0 rfl rfl (by decide) rfl hl.1 rfl (Nat.le_of_ble_eq_true rfl) dL_law_675 ⟨Nat.le_of_ble_eq_true rfl, Nat.le_of_ble_eq_true rfl⟩ (fun _ => [(h2, .inr (12, [.int 1, .ref h3, .int 0, .int 0, .int 0, .int (-1), .int 0, .int 0, .ref h15, .ref h16, .ref h17, .ref h18, .int 0, .ref h19, .ref h20, .int 0, .ref h21, .ref h22, .ref h23, .ref h24, .ref h25, .int 0, .ref h26, .ref h27, .ref h28, .int 0, .ref h29, .ref h30, .ref h31, .int 0, .int 0, .ref h32, .ref h33, .ref h34, .int 0, .long 0, .long 0, .ref h35, .ref h36, .ref h37, .ref h38, .ref h39, .ref h40, .ref h41, .ref h42, .ref h43, .ref h44, .int 0, .int 0, .ref h45, .ref h46, .ref h47, .ref h48, .ref h49, .ref h50, .ref h51, .ref h52, .ref h53, .int 0, .int 0, .int 0, .int 0, .long 0, .ref h54, .ref h55, .ref h56, .int 0, .int 0, .long 0]))]) (fun _ => rfl) (fun qs2 H locs hT => ?_)
  refine lv_istore (pc := 678) (lv' := [(6, .int 0), (5, .int 1), (0, .ref b), (1, .ref h0), (2, .ref h2), (3, .ref h4), (4, .int 0)]) hx hb dL_law_678 hl (by decide) rfl (fun ls hl => ?_)
  refine lv_aload_n (pc := 680) hx hb dL_law_680 rfl (lv_at hl 4 rfl) ?_
  refine z_cVI (pc := 681) hx hb hml hown hts hK hA hT lkV_RL_96 (k1051_X12_thrown l G cy h2 h3 h15 h16 h17 h18 h19 h20 h21 h22 h23 h24 h25 h26 h27 h28 h29 h30 h31 h32 h33 h34 h35 h36 h37 h38 h39 h40 h41 h42 h43 h44 h45 h46 h47 h48 h49 h50 h51 h52 h53 h54 h55 h56) [0] [] rfl rfl rfl rfl rfl 0 rfl rfl (by decide) rfl hl.1 rfl (Nat.le_of_ble_eq_true rfl) dL_law_681 ⟨Nat.le_of_ble_eq_true rfl, Nat.le_of_ble_eq_true rfl⟩ (fun _ => [(h2, .inr (12, [.int 1, .ref h3, .int 0, .int 0, .int 0, .int (-1), .int 0, .int 0, .ref h15, .ref h16, .ref h17, .ref h18, .int 0, .ref h19, .ref h20, .int 0, .ref h21, .ref h22, .ref h23, .ref h24, .ref h25, .int 0, .ref h26, .ref h27, .ref h28, .int 0, .ref h29, .ref h30, .ref h31, .int 0, .int 0, .ref h32, .ref h33, .ref h34, .int 0, .long 0, .long 0, .ref h35, .ref h36, .ref h37, .ref h38, .ref h39, .ref h40, .ref h41, .ref h42, .ref h43, .ref h44, .int 0, .int 0, .ref h45, .ref h46, .ref h47, .ref h48, .ref h49, .ref h50, .ref h51, .ref h52, .ref h53, .int 0, .int 0, .int 0, .int 0, .long 0, .ref h54, .ref h55, .ref h56, .int 0, .int 0, .long 0]))]) (fun _ => rfl) (fun qs3 H locs hT => ?_)
  refine lv_iload (pc := 684) hx hb dL_law_684 (lv_at hl 1 rfl) ?_
  refine zb_icmp_eq_t (pc := 686) (tgt := 691) hx hb dL_law_686 (by decide) (by decide) ?_
  refine lv_iload (pc := 691) hx hb dL_law_691 (lv_at hl 1 rfl) ?_
  refine zb_if_ne_t (pc := 693) (tgt := 708) hx hb dL_law_693 (by decide) (by decide) ?_
  refine lv_goto (pc := 708) (tgt := 1719) hx hb dL_law_708 (by decide) ?_
  exact q_end hx hb hr hlk hX hbl hT (lv_sub hl [2, 6] rfl) (Nat.le_of_ble_eq_true rfl) (Nat.le_of_ble_eq_true rfl)
set_option maxHeartbeats 4000000 in
set_option maxRecDepth 100000 in
theorem q_last_1_neg {p : Program} {l : Launch} {e : Env} {s : State} {m : MethodId} {below : List Frame} {meth : Method} {c : Code} {H : Heap} {locs : List Loc} {ls : Array Slot} {G : va_G} {cy : Nat → ClassId} {b : Nat} {xs : Nat → Int32} (C : zC l G cy p s m meth c b 6 xs) (h0 h1 h2 h3 h4 h5 h6 h7 h8 h9 h10 h11 h12 h13 h14 h15 h16 h17 h18 h19 h20 h21 h22 h23 h24 h25 h26 h27 h28 h29 h30 h31 h32 h33 h34 h35 h36 h37 h38 h39 h40 h41 h42 h43 h44 h45 h46 h47 h48 h49 h50 h51 h52 h53 h54 h55 h56 h57 h58 h59 h60 h61 h62 h63 h64 h65 h66 : Nat) (gx : Nat → Nat) (gm : Nat → Nat) (j : Nat) (hloj : 0 ≤ j) (hhij : j < 6) (hs1 : xs 1 = (nI j)) (hneg : ((xs 2) : Int32) < 0) (hT : zT G (fun q => s.heap.size ≤ q) s.heap H locs [(h0, .inr (11, [.ref h1, .ref h7, .ref h8, .ref h9, .ref h10, .ref h11, .ref h12, .ref h13, .ref h14, .ref h15, .ref h2, .int (-1), .int (-1), .int (-1), .int (-1)])), (h1, .inl (cy 3, 6, .inr (.inr (.inr (.inr (fun i => some (gx i))))))), ((gx j), .inr (3, [.int 1, .int 0, .int 0, .int 0, .ref h16, .ref h17, .ref h18, .ref h19, .ref h20, .ref h21, .ref h22, .ref h23, .ref h24, .ref h25])), (h2, .inl (cy 0, 3, .inl (kc 0))), (h3, .inr (12, [.int 0, .ref h5, .int 0, .int 0, .int 0, .int (-1), .int 0, .int 0, .ref h26, .ref h4, .ref h27, .ref h28, .int 0, .ref h29, .ref h30, .int 0, .ref h31, .ref h32, .ref h33, .ref h34, .ref h35, .int 0, .ref h36, .ref h37, .ref h38, .int 0, .ref h39, .ref h40, .ref h41, .int 0, .int 0, .ref h42, .ref h43, .ref h44, .int 0, .long 0, .long 0, .ref h45, .ref h46, .ref h47, .ref h48, .ref h49, .ref h50, .ref h51, .ref h52, .ref h53, .ref h54, .int 0, .int 0, .ref h55, .ref h56, .ref h57, .ref h58, .ref h59, .ref h60, .ref h61, .ref h62, .ref h63, .int 0, .int 0, .int 0, .int 0, .long 0, .ref h64, .ref h65, .ref h66, .int 0, .int 0, .long 0])), (h4, .inl (cy 4, 6, .inr (.inr (.inr (.inr (fun i => some (gm i))))))), ((gm j), .inl (cy 0, 643, .inl (zfil (upd (kc 0) 0 1) 3 43 (-1)))), (h5, .inl (cy 0, 3, .inl (kc 0)))]) (hl : lv_has ls 8 [(0, .ref b), (1, .ref h0), (2, .ref h3), (3, .ref h6), (4, .int 0)]) : W p l e (zR 1000 600002 7302232) s m #[Value.ref b] below meth c H locs 476 284354 (lw_Z below #[Value.ref b] s) (F0 m 643 ls []) := by
  obtain ⟨hl0, hx, hb, hr, hml, hown, hts, hX, hbl, hlk, hK, hE, q1, v1, q2, v2, hS⟩ := C
  have hA : ∀ q : Nat, s.heap.size ≤ q → (fun q => s.heap.size ≤ q) q := fun _ h => h
  have hbA : ¬ (fun q => s.heap.size ≤ q) b := Nat.not_le.mpr hbl
  refine lv_aload_n (pc := 643) hx hb dL_law_643 rfl (lv_at hl 1 rfl) ?_
  refine lv_aload_n (pc := 644) hx hb dL_law_644 rfl (lv_at hl 0 rfl) ?_
  refine lv_iload (pc := 645) hx hb dL_law_645 (lv_at hl 4 rfl) ?_
  refine lv_iconst (pc := 647) (v := 1) hx hb dL_law_647 (by decide) ?_
  refine z_iadd (pc := 648) (v := 1) hx hb dL_law_648 (by decide) ?_
  refine z_sld (pc := 649) (v := (nI j)) hx hb hX hbl hbA hT 1 rfl (by decide) hs1 dL_law_649 ?_
  refine lv_aload_n (pc := 650) hx hb dL_law_650 rfl (lv_at hl 0 rfl) ?_
  refine lv_iload (pc := 651) hx hb dL_law_651 (lv_at hl 4 rfl) ?_
  refine lv_iconst (pc := 653) (v := 2) hx hb dL_law_653 (by decide) ?_
  refine z_iadd (pc := 654) (v := 2) hx hb dL_law_654 (by decide) ?_
  refine z_sld (pc := 655) (v := (xs 2)) hx hb hX hbl hbA hT 2 rfl (by decide) rfl dL_law_655 ?_
  refine lv_aload_n (pc := 656) hx hb dL_law_656 rfl (lv_at hl 3 rfl) ?_
  refine z_eHI (pc := 657) zE_ok hE hx hb hml hown hts hK hA hT lkH_RL_122 ((k846_L_last l G cy hl0 h0 h1 h2 h6 h7 h8 h9 h10 h11 h12 h13 h14 h15 h16 h17 h18 h19 h20 h21 h22 h23 h24 h25 (xs 2) j (gx) (by omega) (by omega) hneg).e) [0, 1, 2, 3] [4, 5, 6, 7] rfl rfl rfl rfl rfl (by decide) rfl hl.1 rfl (Nat.le_of_ble_eq_true rfl) dL_law_657 ⟨Nat.le_of_ble_eq_true rfl, Nat.le_of_ble_eq_true rfl⟩ (fun _ => [(h3, .inr (12, [.int 0, .ref h5, .int 0, .int 0, .int 0, .int (-1), .int 0, .int 0, .ref h26, .ref h4, .ref h27, .ref h28, .int 0, .ref h29, .ref h30, .int 0, .ref h31, .ref h32, .ref h33, .ref h34, .ref h35, .int 0, .ref h36, .ref h37, .ref h38, .int 0, .ref h39, .ref h40, .ref h41, .int 0, .int 0, .ref h42, .ref h43, .ref h44, .int 0, .long 0, .long 0, .ref h45, .ref h46, .ref h47, .ref h48, .ref h49, .ref h50, .ref h51, .ref h52, .ref h53, .ref h54, .int 0, .int 0, .ref h55, .ref h56, .ref h57, .ref h58, .ref h59, .ref h60, .ref h61, .ref h62, .ref h63, .int 0, .int 0, .int 0, .int 0, .long 0, .ref h64, .ref h65, .ref h66, .int 0, .int 0, .long 0])), (h4, .inl (cy 4, 6, .inr (.inr (.inr (.inr (fun i => some (gm i))))))), ((gm j), .inl (cy 0, 643, .inl (zfil (upd (kc 0) 0 1) 3 43 (-1)))), (h5, .inl (cy 0, 3, .inl (kc 0)))]) (fun _ => rfl) (fun qs1 H locs hT => ?_)
  refine lv_istore (pc := 660) (lv' := [(5, .int 1), (0, .ref b), (1, .ref h0), (2, .ref h3), (3, .ref h6), (4, .int 0)]) hx hb dL_law_660 hl (by decide) rfl (fun ls hl => ?_)
  refine lv_aload_n (pc := 662) hx hb dL_law_662 rfl (lv_at hl 3 rfl) ?_
  refine lv_aload_n (pc := 663) hx hb dL_law_663 rfl (lv_at hl 1 rfl) ?_
  refine lv_iload (pc := 664) hx hb dL_law_664 (lv_at hl 5 rfl) ?_
  refine lv_iconst (pc := 666) (v := 1) hx hb dL_law_666 (by decide) ?_
  refine z_iadd (pc := 667) (v := 1) hx hb dL_law_667 (by decide) ?_
  refine z_sld (pc := 668) (v := (nI j)) hx hb hX hbl hbA hT 1 rfl (by decide) hs1 dL_law_668 ?_
  refine lv_aload_n (pc := 669) hx hb dL_law_669 rfl (lv_at hl 1 rfl) ?_
  refine lv_iload (pc := 670) hx hb dL_law_670 (lv_at hl 5 rfl) ?_
  refine lv_iconst (pc := 672) (v := 2) hx hb dL_law_672 (by decide) ?_
  refine z_iadd (pc := 673) (v := 2) hx hb dL_law_673 (by decide) ?_
  refine z_sld (pc := 674) (v := (xs 2)) hx hb hX hbl hbA hT 2 rfl (by decide) rfl dL_law_674 ?_
  refine z_cVI (pc := 675) hx hb hml hown hts hK hA hT lkV_RL_124 (k691_X12_last l G cy h3 h4 h5 h26 h27 h28 h29 h30 h31 h32 h33 h34 h35 h36 h37 h38 h39 h40 h41 h42 h43 h44 h45 h46 h47 h48 h49 h50 h51 h52 h53 h54 h55 h56 h57 h58 h59 h60 h61 h62 h63 h64 h65 h66 (xs 2) j (gm) (by omega) (by omega) hneg) [0, 1, 2, 3] [] rfl rfl rfl rfl rfl 0 rfl rfl (by decide) rfl hl.1 rfl (Nat.le_of_ble_eq_true rfl) dL_law_675 ⟨Nat.le_of_ble_eq_true rfl, Nat.le_of_ble_eq_true rfl⟩ (fun _ => [(h3, .inr (12, [.int 1, .ref h5, .int 0, .int 0, .int 0, .int (-1), .int 0, .int 0, .ref h26, .ref h4, .ref h27, .ref h28, .int 0, .ref h29, .ref h30, .int 0, .ref h31, .ref h32, .ref h33, .ref h34, .ref h35, .int 0, .ref h36, .ref h37, .ref h38, .int 0, .ref h39, .ref h40, .ref h41, .int 0, .int 0, .ref h42, .ref h43, .ref h44, .int 0, .long 0, .long 0, .ref h45, .ref h46, .ref h47, .ref h48, .ref h49, .ref h50, .ref h51, .ref h52, .ref h53, .ref h54, .int 0, .int 0, .ref h55, .ref h56, .ref h57, .ref h58, .ref h59, .ref h60, .ref h61, .ref h62, .ref h63, .int 0, .int 0, .int 0, .int 0, .long 0, .ref h64, .ref h65, .ref h66, .int 0, .int 0, .long 0]))]) (fun _ => rfl) (fun qs2 H locs hT => ?_)
  refine lv_istore (pc := 678) (lv' := [(6, .int 0), (5, .int 1), (0, .ref b), (1, .ref h0), (2, .ref h3), (3, .ref h6), (4, .int 0)]) hx hb dL_law_678 hl (by decide) rfl (fun ls hl => ?_)
  refine lv_aload_n (pc := 680) hx hb dL_law_680 rfl (lv_at hl 4 rfl) ?_
  refine z_cVI (pc := 681) hx hb hml hown hts hK hA hT lkV_RL_96 (k1051_X12_thrown l G cy h3 h5 h26 h4 h27 h28 h29 h30 h31 h32 h33 h34 h35 h36 h37 h38 h39 h40 h41 h42 h43 h44 h45 h46 h47 h48 h49 h50 h51 h52 h53 h54 h55 h56 h57 h58 h59 h60 h61 h62 h63 h64 h65 h66) [0] [] rfl rfl rfl rfl rfl 0 rfl rfl (by decide) rfl hl.1 rfl (Nat.le_of_ble_eq_true rfl) dL_law_681 ⟨Nat.le_of_ble_eq_true rfl, Nat.le_of_ble_eq_true rfl⟩ (fun _ => [(h3, .inr (12, [.int 1, .ref h5, .int 0, .int 0, .int 0, .int (-1), .int 0, .int 0, .ref h26, .ref h4, .ref h27, .ref h28, .int 0, .ref h29, .ref h30, .int 0, .ref h31, .ref h32, .ref h33, .ref h34, .ref h35, .int 0, .ref h36, .ref h37, .ref h38, .int 0, .ref h39, .ref h40, .ref h41, .int 0, .int 0, .ref h42, .ref h43, .ref h44, .int 0, .long 0, .long 0, .ref h45, .ref h46, .ref h47, .ref h48, .ref h49, .ref h50, .ref h51, .ref h52, .ref h53, .ref h54, .int 0, .int 0, .ref h55, .ref h56, .ref h57, .ref h58, .ref h59, .ref h60, .ref h61, .ref h62, .ref h63, .int 0, .int 0, .int 0, .int 0, .long 0, .ref h64, .ref h65, .ref h66, .int 0, .int 0, .long 0]))]) (fun _ => rfl) (fun qs3 H locs hT => ?_)
  refine lv_iload (pc := 684) hx hb dL_law_684 (lv_at hl 1 rfl) ?_
  refine zb_icmp_eq_t (pc := 686) (tgt := 691) hx hb dL_law_686 (by decide) (by decide) ?_
  refine lv_iload (pc := 691) hx hb dL_law_691 (lv_at hl 1 rfl) ?_
  refine zb_if_ne_t (pc := 693) (tgt := 708) hx hb dL_law_693 (by decide) (by decide) ?_
  refine lv_goto (pc := 708) (tgt := 1719) hx hb dL_law_708 (by decide) ?_
  exact q_end hx hb hr hlk hX hbl hT (lv_sub hl [2, 6] rfl) (Nat.le_of_ble_eq_true rfl) (Nat.le_of_ble_eq_true rfl)
set_option maxHeartbeats 4000000 in
set_option maxRecDepth 100000 in
theorem q_last_1_big {p : Program} {l : Launch} {e : Env} {s : State} {m : MethodId} {below : List Frame} {meth : Method} {c : Code} {H : Heap} {locs : List Loc} {ls : Array Slot} {G : va_G} {cy : Nat → ClassId} {b : Nat} {xs : Nat → Int32} (C : zC l G cy p s m meth c b 6 xs) (h0 h1 h2 h3 h4 h5 h6 h7 h8 h9 h10 h11 h12 h13 h14 h15 h16 h17 h18 h19 h20 h21 h22 h23 h24 h25 h26 h27 h28 h29 h30 h31 h32 h33 h34 h35 h36 h37 h38 h39 h40 h41 h42 h43 h44 h45 h46 h47 h48 h49 h50 h51 h52 h53 h54 h55 h56 h57 h58 h59 h60 h61 h62 h63 h64 h65 h66 : Nat) (gx : Nat → Nat) (gm : Nat → Nat) (j : Nat) (hloj : 0 ≤ j) (hhij : j < 6) (hs1 : xs 1 = (nI j)) (hb1 : ¬ ((xs 2) : Int32) < 0) (hb2 : ¬ ((xs 2) : Int32) < 1) (hb3 : (0 : Int32) < (xs 2)) (hT : zT G (fun q => s.heap.size ≤ q) s.heap H locs [(h0, .inr (11, [.ref h1, .ref h7, .ref h8, .ref h9, .ref h10, .ref h11, .ref h12, .ref h13, .ref h14, .ref h15, .ref h2, .int (-1), .int (-1), .int (-1), .int (-1)])), (h1, .inl (cy 3, 6, .inr (.inr (.inr (.inr (fun i => some (gx i))))))), ((gx j), .inr (3, [.int 1, .int 0, .int 0, .int 0, .ref h16, .ref h17, .ref h18, .ref h19, .ref h20, .ref h21, .ref h22, .ref h23, .ref h24, .ref h25])), (h2, .inl (cy 0, 3, .inl (kc 0))), (h3, .inr (12, [.int 0, .ref h5, .int 0, .int 0, .int 0, .int (-1), .int 0, .int 0, .ref h26, .ref h4, .ref h27, .ref h28, .int 0, .ref h29, .ref h30, .int 0, .ref h31, .ref h32, .ref h33, .ref h34, .ref h35, .int 0, .ref h36, .ref h37, .ref h38, .int 0, .ref h39, .ref h40, .ref h41, .int 0, .int 0, .ref h42, .ref h43, .ref h44, .int 0, .long 0, .long 0, .ref h45, .ref h46, .ref h47, .ref h48, .ref h49, .ref h50, .ref h51, .ref h52, .ref h53, .ref h54, .int 0, .int 0, .ref h55, .ref h56, .ref h57, .ref h58, .ref h59, .ref h60, .ref h61, .ref h62, .ref h63, .int 0, .int 0, .int 0, .int 0, .long 0, .ref h64, .ref h65, .ref h66, .int 0, .int 0, .long 0])), (h4, .inl (cy 4, 6, .inr (.inr (.inr (.inr (fun i => some (gm i))))))), ((gm j), .inl (cy 0, 643, .inl (zfil (upd (kc 0) 0 1) 3 43 (-1)))), (h5, .inl (cy 0, 3, .inl (kc 0)))]) (hl : lv_has ls 8 [(0, .ref b), (1, .ref h0), (2, .ref h3), (3, .ref h6), (4, .int 0)]) : W p l e (zR 1000 600002 7302232) s m #[Value.ref b] below meth c H locs 476 284354 (lw_Z below #[Value.ref b] s) (F0 m 643 ls []) := by
  obtain ⟨hl0, hx, hb, hr, hml, hown, hts, hX, hbl, hlk, hK, hE, q1, v1, q2, v2, hS⟩ := C
  have hA : ∀ q : Nat, s.heap.size ≤ q → (fun q => s.heap.size ≤ q) q := fun _ h => h
  have hbA : ¬ (fun q => s.heap.size ≤ q) b := Nat.not_le.mpr hbl
  refine lv_aload_n (pc := 643) hx hb dL_law_643 rfl (lv_at hl 1 rfl) ?_
  refine lv_aload_n (pc := 644) hx hb dL_law_644 rfl (lv_at hl 0 rfl) ?_
  refine lv_iload (pc := 645) hx hb dL_law_645 (lv_at hl 4 rfl) ?_
  refine lv_iconst (pc := 647) (v := 1) hx hb dL_law_647 (by decide) ?_
  refine z_iadd (pc := 648) (v := 1) hx hb dL_law_648 (by decide) ?_
  refine z_sld (pc := 649) (v := (nI j)) hx hb hX hbl hbA hT 1 rfl (by decide) hs1 dL_law_649 ?_
  refine lv_aload_n (pc := 650) hx hb dL_law_650 rfl (lv_at hl 0 rfl) ?_
  refine lv_iload (pc := 651) hx hb dL_law_651 (lv_at hl 4 rfl) ?_
  refine lv_iconst (pc := 653) (v := 2) hx hb dL_law_653 (by decide) ?_
  refine z_iadd (pc := 654) (v := 2) hx hb dL_law_654 (by decide) ?_
  refine z_sld (pc := 655) (v := (xs 2)) hx hb hX hbl hbA hT 2 rfl (by decide) rfl dL_law_655 ?_
  refine lv_aload_n (pc := 656) hx hb dL_law_656 rfl (lv_at hl 3 rfl) ?_
  refine z_eHI (pc := 657) zE_ok hE hx hb hml hown hts hK hA hT lkH_RL_122 ((k847_L_last l G cy hl0 h0 h1 h2 h6 h7 h8 h9 h10 h11 h12 h13 h14 h15 h16 h17 h18 h19 h20 h21 h22 h23 h24 h25 (xs 2) j (gx) (by omega) (by omega) hb1 hb2).e) [0, 1, 2, 3] [4, 5, 6, 7] rfl rfl rfl rfl rfl (by decide) rfl hl.1 rfl (Nat.le_of_ble_eq_true rfl) dL_law_657 ⟨Nat.le_of_ble_eq_true rfl, Nat.le_of_ble_eq_true rfl⟩ (fun _ => [(h3, .inr (12, [.int 0, .ref h5, .int 0, .int 0, .int 0, .int (-1), .int 0, .int 0, .ref h26, .ref h4, .ref h27, .ref h28, .int 0, .ref h29, .ref h30, .int 0, .ref h31, .ref h32, .ref h33, .ref h34, .ref h35, .int 0, .ref h36, .ref h37, .ref h38, .int 0, .ref h39, .ref h40, .ref h41, .int 0, .int 0, .ref h42, .ref h43, .ref h44, .int 0, .long 0, .long 0, .ref h45, .ref h46, .ref h47, .ref h48, .ref h49, .ref h50, .ref h51, .ref h52, .ref h53, .ref h54, .int 0, .int 0, .ref h55, .ref h56, .ref h57, .ref h58, .ref h59, .ref h60, .ref h61, .ref h62, .ref h63, .int 0, .int 0, .int 0, .int 0, .long 0, .ref h64, .ref h65, .ref h66, .int 0, .int 0, .long 0])), (h4, .inl (cy 4, 6, .inr (.inr (.inr (.inr (fun i => some (gm i))))))), ((gm j), .inl (cy 0, 643, .inl (zfil (upd (kc 0) 0 1) 3 43 (-1)))), (h5, .inl (cy 0, 3, .inl (kc 0)))]) (fun _ => rfl) (fun qs1 H locs hT => ?_)
  refine lv_istore (pc := 660) (lv' := [(5, .int 1), (0, .ref b), (1, .ref h0), (2, .ref h3), (3, .ref h6), (4, .int 0)]) hx hb dL_law_660 hl (by decide) rfl (fun ls hl => ?_)
  refine lv_aload_n (pc := 662) hx hb dL_law_662 rfl (lv_at hl 3 rfl) ?_
  refine lv_aload_n (pc := 663) hx hb dL_law_663 rfl (lv_at hl 1 rfl) ?_
  refine lv_iload (pc := 664) hx hb dL_law_664 (lv_at hl 5 rfl) ?_
  refine lv_iconst (pc := 666) (v := 1) hx hb dL_law_666 (by decide) ?_
  refine z_iadd (pc := 667) (v := 1) hx hb dL_law_667 (by decide) ?_
  refine z_sld (pc := 668) (v := (nI j)) hx hb hX hbl hbA hT 1 rfl (by decide) hs1 dL_law_668 ?_
  refine lv_aload_n (pc := 669) hx hb dL_law_669 rfl (lv_at hl 1 rfl) ?_
  refine lv_iload (pc := 670) hx hb dL_law_670 (lv_at hl 5 rfl) ?_
  refine lv_iconst (pc := 672) (v := 2) hx hb dL_law_672 (by decide) ?_
  refine z_iadd (pc := 673) (v := 2) hx hb dL_law_673 (by decide) ?_
  refine z_sld (pc := 674) (v := (xs 2)) hx hb hX hbl hbA hT 2 rfl (by decide) rfl dL_law_674 ?_
  refine z_cVI (pc := 675) hx hb hml hown hts hK hA hT lkV_RL_124 (k694_X12_last l G cy h3 h4 h5 h26 h27 h28 h29 h30 h31 h32 h33 h34 h35 h36 h37 h38 h39 h40 h41 h42 h43 h44 h45 h46 h47 h48 h49 h50 h51 h52 h53 h54 h55 h56 h57 h58 h59 h60 h61 h62 h63 h64 h65 h66 (xs 2) j (gm) (by omega) (by omega) hb1 hb3) [0, 1, 2, 3] [] rfl rfl rfl rfl rfl 0 rfl rfl (by decide) rfl hl.1 rfl (Nat.le_of_ble_eq_true rfl) dL_law_675 ⟨Nat.le_of_ble_eq_true rfl, Nat.le_of_ble_eq_true rfl⟩ (fun _ => [(h3, .inr (12, [.int 1, .ref h5, .int 0, .int 0, .int 0, .int (-1), .int 0, .int 0, .ref h26, .ref h4, .ref h27, .ref h28, .int 0, .ref h29, .ref h30, .int 0, .ref h31, .ref h32, .ref h33, .ref h34, .ref h35, .int 0, .ref h36, .ref h37, .ref h38, .int 0, .ref h39, .ref h40, .ref h41, .int 0, .int 0, .ref h42, .ref h43, .ref h44, .int 0, .long 0, .long 0, .ref h45, .ref h46, .ref h47, .ref h48, .ref h49, .ref h50, .ref h51, .ref h52, .ref h53, .ref h54, .int 0, .int 0, .ref h55, .ref h56, .ref h57, .ref h58, .ref h59, .ref h60, .ref h61, .ref h62, .ref h63, .int 0, .int 0, .int 0, .int 0, .long 0, .ref h64, .ref h65, .ref h66, .int 0, .int 0, .long 0]))]) (fun _ => rfl) (fun qs2 H locs hT => ?_)
  refine lv_istore (pc := 678) (lv' := [(6, .int 0), (5, .int 1), (0, .ref b), (1, .ref h0), (2, .ref h3), (3, .ref h6), (4, .int 0)]) hx hb dL_law_678 hl (by decide) rfl (fun ls hl => ?_)
  refine lv_aload_n (pc := 680) hx hb dL_law_680 rfl (lv_at hl 4 rfl) ?_
  refine z_cVI (pc := 681) hx hb hml hown hts hK hA hT lkV_RL_96 (k1051_X12_thrown l G cy h3 h5 h26 h4 h27 h28 h29 h30 h31 h32 h33 h34 h35 h36 h37 h38 h39 h40 h41 h42 h43 h44 h45 h46 h47 h48 h49 h50 h51 h52 h53 h54 h55 h56 h57 h58 h59 h60 h61 h62 h63 h64 h65 h66) [0] [] rfl rfl rfl rfl rfl 0 rfl rfl (by decide) rfl hl.1 rfl (Nat.le_of_ble_eq_true rfl) dL_law_681 ⟨Nat.le_of_ble_eq_true rfl, Nat.le_of_ble_eq_true rfl⟩ (fun _ => [(h3, .inr (12, [.int 1, .ref h5, .int 0, .int 0, .int 0, .int (-1), .int 0, .int 0, .ref h26, .ref h4, .ref h27, .ref h28, .int 0, .ref h29, .ref h30, .int 0, .ref h31, .ref h32, .ref h33, .ref h34, .ref h35, .int 0, .ref h36, .ref h37, .ref h38, .int 0, .ref h39, .ref h40, .ref h41, .int 0, .int 0, .ref h42, .ref h43, .ref h44, .int 0, .long 0, .long 0, .ref h45, .ref h46, .ref h47, .ref h48, .ref h49, .ref h50, .ref h51, .ref h52, .ref h53, .ref h54, .int 0, .int 0, .ref h55, .ref h56, .ref h57, .ref h58, .ref h59, .ref h60, .ref h61, .ref h62, .ref h63, .int 0, .int 0, .int 0, .int 0, .long 0, .ref h64, .ref h65, .ref h66, .int 0, .int 0, .long 0]))]) (fun _ => rfl) (fun qs3 H locs hT => ?_)
  refine lv_iload (pc := 684) hx hb dL_law_684 (lv_at hl 1 rfl) ?_
  refine zb_icmp_eq_t (pc := 686) (tgt := 691) hx hb dL_law_686 (by decide) (by decide) ?_
  refine lv_iload (pc := 691) hx hb dL_law_691 (lv_at hl 1 rfl) ?_
  refine zb_if_ne_t (pc := 693) (tgt := 708) hx hb dL_law_693 (by decide) (by decide) ?_
  refine lv_goto (pc := 708) (tgt := 1719) hx hb dL_law_708 (by decide) ?_
  exact q_end hx hb hr hlk hX hbl hT (lv_sub hl [2, 6] rfl) (Nat.le_of_ble_eq_true rfl) (Nat.le_of_ble_eq_true rfl)
set_option maxHeartbeats 4000000 in
set_option maxRecDepth 100000 in
theorem q_least_0_neg {p : Program} {l : Launch} {e : Env} {s : State} {m : MethodId} {below : List Frame} {meth : Method} {c : Code} {H : Heap} {locs : List Loc} {ls : Array Slot} {G : va_G} {cy : Nat → ClassId} {b : Nat} {xs : Nat → Int32} (C : zC l G cy p s m meth c b 6 xs) (h0 h1 h2 h3 h4 h5 h6 h7 h8 h9 h10 h11 h12 h13 h14 h15 h16 h17 h18 h19 h20 h21 h22 h23 h24 h25 h26 h27 h28 h29 h30 h31 h32 h33 h34 h35 h36 h37 h38 h39 h40 h41 h42 h43 h44 h45 h46 h47 h48 h49 h50 h51 h52 h53 h54 h55 h56 : Nat) (hneg : ((xs 1) : Int32) < 0) (hT : zT G (fun q => s.heap.size ≤ q) s.heap H locs [(h0, .inr (11, [.ref h5, .ref h6, .ref h7, .ref h8, .ref h9, .ref h10, .ref h11, .ref h12, .ref h13, .ref h14, .ref h1, .int (-1), .int (-1), .int (-1), .int (-1)])), (h1, .inl (cy 0, 3, .inl (kc 0))), (h2, .inr (12, [.int 0, .ref h3, .int 0, .int 0, .int 0, .int (-1), .int 0, .int 0, .ref h15, .ref h16, .ref h17, .ref h18, .int 0, .ref h19, .ref h20, .int 0, .ref h21, .ref h22, .ref h23, .ref h24, .ref h25, .int 0, .ref h26, .ref h27, .ref h28, .int 0, .ref h29, .ref h30, .ref h31, .int 0, .int 0, .ref h32, .ref h33, .ref h34, .int 0, .long 0, .long 0, .ref h35, .ref h36, .ref h37, .ref h38, .ref h39, .ref h40, .ref h41, .ref h42, .ref h43, .ref h44, .int 0, .int 0, .ref h45, .ref h46, .ref h47, .ref h48, .ref h49, .ref h50, .ref h51, .ref h52, .ref h53, .int 0, .int 0, .int 0, .int 0, .long 0, .ref h54, .ref h55, .ref h56, .int 0, .int 0, .long 0])), (h3, .inl (cy 0, 3, .inl (kc 0)))]) (hl : lv_has ls 8 [(0, .ref b), (1, .ref h0), (2, .ref h2), (3, .ref h4), (4, .int 0)]) : W p l e (zR 1000 600002 7302232) s m #[Value.ref b] below meth c H locs 476 284354 (lw_Z below #[Value.ref b] s) (F0 m 711 ls []) := by
  obtain ⟨hl0, hx, hb, hr, hml, hown, hts, hX, hbl, hlk, hK, hE, q1, v1, q2, v2, hS⟩ := C
  have hA : ∀ q : Nat, s.heap.size ≤ q → (fun q => s.heap.size ≤ q) q := fun _ h => h
  have hbA : ¬ (fun q => s.heap.size ≤ q) b := Nat.not_le.mpr hbl
  refine lv_aload_n (pc := 711) hx hb dL_law_711 rfl (lv_at hl 1 rfl) ?_
  refine lv_aload_n (pc := 712) hx hb dL_law_712 rfl (lv_at hl 0 rfl) ?_
  refine lv_iload (pc := 713) hx hb dL_law_713 (lv_at hl 4 rfl) ?_
  refine lv_iconst (pc := 715) (v := 1) hx hb dL_law_715 (by decide) ?_
  refine z_iadd (pc := 716) (v := 1) hx hb dL_law_716 (by decide) ?_
  refine z_sld (pc := 717) (v := (xs 1)) hx hb hX hbl hbA hT 1 rfl (by decide) rfl dL_law_717 ?_
  refine lv_aload_n (pc := 718) hx hb dL_law_718 rfl (lv_at hl 3 rfl) ?_
  refine z_eHI (pc := 719) zE_ok hE hx hb hml hown hts hK hA hT lkH_RL_125 ((k848_L_least l G cy hl0 h0 h1 h4 h5 h6 h7 h8 h9 h10 h11 h12 h13 h14 (xs 1) hneg).e) [0, 1] [2, 3] rfl rfl rfl rfl rfl (by decide) rfl hl.1 rfl (Nat.le_of_ble_eq_true rfl) dL_law_719 ⟨Nat.le_of_ble_eq_true rfl, Nat.le_of_ble_eq_true rfl⟩ (fun _ => [(h2, .inr (12, [.int 0, .ref h3, .int 0, .int 0, .int 0, .int (-1), .int 0, .int 0, .ref h15, .ref h16, .ref h17, .ref h18, .int 0, .ref h19, .ref h20, .int 0, .ref h21, .ref h22, .ref h23, .ref h24, .ref h25, .int 0, .ref h26, .ref h27, .ref h28, .int 0, .ref h29, .ref h30, .ref h31, .int 0, .int 0, .ref h32, .ref h33, .ref h34, .int 0, .long 0, .long 0, .ref h35, .ref h36, .ref h37, .ref h38, .ref h39, .ref h40, .ref h41, .ref h42, .ref h43, .ref h44, .int 0, .int 0, .ref h45, .ref h46, .ref h47, .ref h48, .ref h49, .ref h50, .ref h51, .ref h52, .ref h53, .int 0, .int 0, .int 0, .int 0, .long 0, .ref h54, .ref h55, .ref h56, .int 0, .int 0, .long 0])), (h3, .inl (cy 0, 3, .inl (kc 0)))]) (fun _ => rfl) (fun qs1 H locs hT => ?_)
  refine lv_istore (pc := 722) (lv' := [(5, .int 1), (0, .ref b), (1, .ref h0), (2, .ref h2), (3, .ref h4), (4, .int 0)]) hx hb dL_law_722 hl (by decide) rfl (fun ls hl => ?_)
  refine lv_aload_n (pc := 724) hx hb dL_law_724 rfl (lv_at hl 3 rfl) ?_
  refine lv_aload_n (pc := 725) hx hb dL_law_725 rfl (lv_at hl 1 rfl) ?_
  refine lv_iload (pc := 726) hx hb dL_law_726 (lv_at hl 5 rfl) ?_
  refine lv_iconst (pc := 728) (v := 1) hx hb dL_law_728 (by decide) ?_
  refine z_iadd (pc := 729) (v := 1) hx hb dL_law_729 (by decide) ?_
  refine z_sld (pc := 730) (v := (xs 1)) hx hb hX hbl hbA hT 1 rfl (by decide) rfl dL_law_730 ?_
  refine z_cVI (pc := 731) hx hb hml hown hts hK hA hT lkV_RL_128 (k695_X12_least l G cy h2 h3 h15 h16 h17 h18 h19 h20 h21 h22 h23 h24 h25 h26 h27 h28 h29 h30 h31 h32 h33 h34 h35 h36 h37 h38 h39 h40 h41 h42 h43 h44 h45 h46 h47 h48 h49 h50 h51 h52 h53 h54 h55 h56 (xs 1) hneg) [0, 1] [] rfl rfl rfl rfl rfl 0 rfl rfl (by decide) rfl hl.1 rfl (Nat.le_of_ble_eq_true rfl) dL_law_731 ⟨Nat.le_of_ble_eq_true rfl, Nat.le_of_ble_eq_true rfl⟩ (fun _ => [(h2, .inr (12, [.int 1, .ref h3, .int 0, .int 0, .int 0, .int (-1), .int 0, .int 0, .ref h15, .ref h16, .ref h17, .ref h18, .int 0, .ref h19, .ref h20, .int 0, .ref h21, .ref h22, .ref h23, .ref h24, .ref h25, .int 0, .ref h26, .ref h27, .ref h28, .int 0, .ref h29, .ref h30, .ref h31, .int 0, .int 0, .ref h32, .ref h33, .ref h34, .int 0, .long 0, .long 0, .ref h35, .ref h36, .ref h37, .ref h38, .ref h39, .ref h40, .ref h41, .ref h42, .ref h43, .ref h44, .int 0, .int 0, .ref h45, .ref h46, .ref h47, .ref h48, .ref h49, .ref h50, .ref h51, .ref h52, .ref h53, .int 0, .int 0, .int 0, .int 0, .long 0, .ref h54, .ref h55, .ref h56, .int 0, .int 0, .long 0]))]) (fun _ => rfl) (fun qs2 H locs hT => ?_)
  refine lv_istore (pc := 734) (lv' := [(6, .int 0), (5, .int 1), (0, .ref b), (1, .ref h0), (2, .ref h2), (3, .ref h4), (4, .int 0)]) hx hb dL_law_734 hl (by decide) rfl (fun ls hl => ?_)
  refine lv_aload_n (pc := 736) hx hb dL_law_736 rfl (lv_at hl 4 rfl) ?_
  refine z_cVI (pc := 737) hx hb hml hown hts hK hA hT lkV_RL_96 (k1051_X12_thrown l G cy h2 h3 h15 h16 h17 h18 h19 h20 h21 h22 h23 h24 h25 h26 h27 h28 h29 h30 h31 h32 h33 h34 h35 h36 h37 h38 h39 h40 h41 h42 h43 h44 h45 h46 h47 h48 h49 h50 h51 h52 h53 h54 h55 h56) [0] [] rfl rfl rfl rfl rfl 0 rfl rfl (by decide) rfl hl.1 rfl (Nat.le_of_ble_eq_true rfl) dL_law_737 ⟨Nat.le_of_ble_eq_true rfl, Nat.le_of_ble_eq_true rfl⟩ (fun _ => [(h2, .inr (12, [.int 1, .ref h3, .int 0, .int 0, .int 0, .int (-1), .int 0, .int 0, .ref h15, .ref h16, .ref h17, .ref h18, .int 0, .ref h19, .ref h20, .int 0, .ref h21, .ref h22, .ref h23, .ref h24, .ref h25, .int 0, .ref h26, .ref h27, .ref h28, .int 0, .ref h29, .ref h30, .ref h31, .int 0, .int 0, .ref h32, .ref h33, .ref h34, .int 0, .long 0, .long 0, .ref h35, .ref h36, .ref h37, .ref h38, .ref h39, .ref h40, .ref h41, .ref h42, .ref h43, .ref h44, .int 0, .int 0, .ref h45, .ref h46, .ref h47, .ref h48, .ref h49, .ref h50, .ref h51, .ref h52, .ref h53, .int 0, .int 0, .int 0, .int 0, .long 0, .ref h54, .ref h55, .ref h56, .int 0, .int 0, .long 0]))]) (fun _ => rfl) (fun qs3 H locs hT => ?_)
  refine lv_iload (pc := 740) hx hb dL_law_740 (lv_at hl 1 rfl) ?_
  refine zb_icmp_eq_t (pc := 742) (tgt := 747) hx hb dL_law_742 (by decide) (by decide) ?_
  refine lv_iload (pc := 747) hx hb dL_law_747 (lv_at hl 1 rfl) ?_
  refine zb_if_ne_t (pc := 749) (tgt := 764) hx hb dL_law_749 (by decide) (by decide) ?_
  refine lv_goto (pc := 764) (tgt := 1719) hx hb dL_law_764 (by decide) ?_
  exact q_end hx hb hr hlk hX hbl hT (lv_sub hl [2, 6] rfl) (Nat.le_of_ble_eq_true rfl) (Nat.le_of_ble_eq_true rfl)
set_option maxHeartbeats 4000000 in
set_option maxRecDepth 100000 in
theorem q_least_0_big {p : Program} {l : Launch} {e : Env} {s : State} {m : MethodId} {below : List Frame} {meth : Method} {c : Code} {H : Heap} {locs : List Loc} {ls : Array Slot} {G : va_G} {cy : Nat → ClassId} {b : Nat} {xs : Nat → Int32} (C : zC l G cy p s m meth c b 6 xs) (h0 h1 h2 h3 h4 h5 h6 h7 h8 h9 h10 h11 h12 h13 h14 h15 h16 h17 h18 h19 h20 h21 h22 h23 h24 h25 h26 h27 h28 h29 h30 h31 h32 h33 h34 h35 h36 h37 h38 h39 h40 h41 h42 h43 h44 h45 h46 h47 h48 h49 h50 h51 h52 h53 h54 h55 h56 : Nat) (hb1 : ¬ ((xs 1) : Int32) < 0) (hb2 : ¬ ((xs 1) : Int32) < 6) (hb3 : (5 : Int32) < (xs 1)) (hT : zT G (fun q => s.heap.size ≤ q) s.heap H locs [(h0, .inr (11, [.ref h5, .ref h6, .ref h7, .ref h8, .ref h9, .ref h10, .ref h11, .ref h12, .ref h13, .ref h14, .ref h1, .int (-1), .int (-1), .int (-1), .int (-1)])), (h1, .inl (cy 0, 3, .inl (kc 0))), (h2, .inr (12, [.int 0, .ref h3, .int 0, .int 0, .int 0, .int (-1), .int 0, .int 0, .ref h15, .ref h16, .ref h17, .ref h18, .int 0, .ref h19, .ref h20, .int 0, .ref h21, .ref h22, .ref h23, .ref h24, .ref h25, .int 0, .ref h26, .ref h27, .ref h28, .int 0, .ref h29, .ref h30, .ref h31, .int 0, .int 0, .ref h32, .ref h33, .ref h34, .int 0, .long 0, .long 0, .ref h35, .ref h36, .ref h37, .ref h38, .ref h39, .ref h40, .ref h41, .ref h42, .ref h43, .ref h44, .int 0, .int 0, .ref h45, .ref h46, .ref h47, .ref h48, .ref h49, .ref h50, .ref h51, .ref h52, .ref h53, .int 0, .int 0, .int 0, .int 0, .long 0, .ref h54, .ref h55, .ref h56, .int 0, .int 0, .long 0])), (h3, .inl (cy 0, 3, .inl (kc 0)))]) (hl : lv_has ls 8 [(0, .ref b), (1, .ref h0), (2, .ref h2), (3, .ref h4), (4, .int 0)]) : W p l e (zR 1000 600002 7302232) s m #[Value.ref b] below meth c H locs 476 284354 (lw_Z below #[Value.ref b] s) (F0 m 711 ls []) := by
  obtain ⟨hl0, hx, hb, hr, hml, hown, hts, hX, hbl, hlk, hK, hE, q1, v1, q2, v2, hS⟩ := C
  have hA : ∀ q : Nat, s.heap.size ≤ q → (fun q => s.heap.size ≤ q) q := fun _ h => h
  have hbA : ¬ (fun q => s.heap.size ≤ q) b := Nat.not_le.mpr hbl
  refine lv_aload_n (pc := 711) hx hb dL_law_711 rfl (lv_at hl 1 rfl) ?_
  refine lv_aload_n (pc := 712) hx hb dL_law_712 rfl (lv_at hl 0 rfl) ?_
  refine lv_iload (pc := 713) hx hb dL_law_713 (lv_at hl 4 rfl) ?_
  refine lv_iconst (pc := 715) (v := 1) hx hb dL_law_715 (by decide) ?_
  refine z_iadd (pc := 716) (v := 1) hx hb dL_law_716 (by decide) ?_
  refine z_sld (pc := 717) (v := (xs 1)) hx hb hX hbl hbA hT 1 rfl (by decide) rfl dL_law_717 ?_
  refine lv_aload_n (pc := 718) hx hb dL_law_718 rfl (lv_at hl 3 rfl) ?_
  refine z_eHI (pc := 719) zE_ok hE hx hb hml hown hts hK hA hT lkH_RL_125 ((k849_L_least l G cy hl0 h0 h1 h4 h5 h6 h7 h8 h9 h10 h11 h12 h13 h14 (xs 1) hb1 hb2).e) [0, 1] [2, 3] rfl rfl rfl rfl rfl (by decide) rfl hl.1 rfl (Nat.le_of_ble_eq_true rfl) dL_law_719 ⟨Nat.le_of_ble_eq_true rfl, Nat.le_of_ble_eq_true rfl⟩ (fun _ => [(h2, .inr (12, [.int 0, .ref h3, .int 0, .int 0, .int 0, .int (-1), .int 0, .int 0, .ref h15, .ref h16, .ref h17, .ref h18, .int 0, .ref h19, .ref h20, .int 0, .ref h21, .ref h22, .ref h23, .ref h24, .ref h25, .int 0, .ref h26, .ref h27, .ref h28, .int 0, .ref h29, .ref h30, .ref h31, .int 0, .int 0, .ref h32, .ref h33, .ref h34, .int 0, .long 0, .long 0, .ref h35, .ref h36, .ref h37, .ref h38, .ref h39, .ref h40, .ref h41, .ref h42, .ref h43, .ref h44, .int 0, .int 0, .ref h45, .ref h46, .ref h47, .ref h48, .ref h49, .ref h50, .ref h51, .ref h52, .ref h53, .int 0, .int 0, .int 0, .int 0, .long 0, .ref h54, .ref h55, .ref h56, .int 0, .int 0, .long 0])), (h3, .inl (cy 0, 3, .inl (kc 0)))]) (fun _ => rfl) (fun qs1 H locs hT => ?_)
  refine lv_istore (pc := 722) (lv' := [(5, .int 1), (0, .ref b), (1, .ref h0), (2, .ref h2), (3, .ref h4), (4, .int 0)]) hx hb dL_law_722 hl (by decide) rfl (fun ls hl => ?_)
  refine lv_aload_n (pc := 724) hx hb dL_law_724 rfl (lv_at hl 3 rfl) ?_
  refine lv_aload_n (pc := 725) hx hb dL_law_725 rfl (lv_at hl 1 rfl) ?_
  refine lv_iload (pc := 726) hx hb dL_law_726 (lv_at hl 5 rfl) ?_
  refine lv_iconst (pc := 728) (v := 1) hx hb dL_law_728 (by decide) ?_
  refine z_iadd (pc := 729) (v := 1) hx hb dL_law_729 (by decide) ?_
  refine z_sld (pc := 730) (v := (xs 1)) hx hb hX hbl hbA hT 1 rfl (by decide) rfl dL_law_730 ?_
  refine z_cVI (pc := 731) hx hb hml hown hts hK hA hT lkV_RL_128 (k696_X12_least l G cy h2 h3 h15 h16 h17 h18 h19 h20 h21 h22 h23 h24 h25 h26 h27 h28 h29 h30 h31 h32 h33 h34 h35 h36 h37 h38 h39 h40 h41 h42 h43 h44 h45 h46 h47 h48 h49 h50 h51 h52 h53 h54 h55 h56 (xs 1) hb1 hb3) [0, 1] [] rfl rfl rfl rfl rfl 0 rfl rfl (by decide) rfl hl.1 rfl (Nat.le_of_ble_eq_true rfl) dL_law_731 ⟨Nat.le_of_ble_eq_true rfl, Nat.le_of_ble_eq_true rfl⟩ (fun _ => [(h2, .inr (12, [.int 1, .ref h3, .int 0, .int 0, .int 0, .int (-1), .int 0, .int 0, .ref h15, .ref h16, .ref h17, .ref h18, .int 0, .ref h19, .ref h20, .int 0, .ref h21, .ref h22, .ref h23, .ref h24, .ref h25, .int 0, .ref h26, .ref h27, .ref h28, .int 0, .ref h29, .ref h30, .ref h31, .int 0, .int 0, .ref h32, .ref h33, .ref h34, .int 0, .long 0, .long 0, .ref h35, .ref h36, .ref h37, .ref h38, .ref h39, .ref h40, .ref h41, .ref h42, .ref h43, .ref h44, .int 0, .int 0, .ref h45, .ref h46, .ref h47, .ref h48, .ref h49, .ref h50, .ref h51, .ref h52, .ref h53, .int 0, .int 0, .int 0, .int 0, .long 0, .ref h54, .ref h55, .ref h56, .int 0, .int 0, .long 0]))]) (fun _ => rfl) (fun qs2 H locs hT => ?_)
  refine lv_istore (pc := 734) (lv' := [(6, .int 0), (5, .int 1), (0, .ref b), (1, .ref h0), (2, .ref h2), (3, .ref h4), (4, .int 0)]) hx hb dL_law_734 hl (by decide) rfl (fun ls hl => ?_)
  refine lv_aload_n (pc := 736) hx hb dL_law_736 rfl (lv_at hl 4 rfl) ?_
  refine z_cVI (pc := 737) hx hb hml hown hts hK hA hT lkV_RL_96 (k1051_X12_thrown l G cy h2 h3 h15 h16 h17 h18 h19 h20 h21 h22 h23 h24 h25 h26 h27 h28 h29 h30 h31 h32 h33 h34 h35 h36 h37 h38 h39 h40 h41 h42 h43 h44 h45 h46 h47 h48 h49 h50 h51 h52 h53 h54 h55 h56) [0] [] rfl rfl rfl rfl rfl 0 rfl rfl (by decide) rfl hl.1 rfl (Nat.le_of_ble_eq_true rfl) dL_law_737 ⟨Nat.le_of_ble_eq_true rfl, Nat.le_of_ble_eq_true rfl⟩ (fun _ => [(h2, .inr (12, [.int 1, .ref h3, .int 0, .int 0, .int 0, .int (-1), .int 0, .int 0, .ref h15, .ref h16, .ref h17, .ref h18, .int 0, .ref h19, .ref h20, .int 0, .ref h21, .ref h22, .ref h23, .ref h24, .ref h25, .int 0, .ref h26, .ref h27, .ref h28, .int 0, .ref h29, .ref h30, .ref h31, .int 0, .int 0, .ref h32, .ref h33, .ref h34, .int 0, .long 0, .long 0, .ref h35, .ref h36, .ref h37, .ref h38, .ref h39, .ref h40, .ref h41, .ref h42, .ref h43, .ref h44, .int 0, .int 0, .ref h45, .ref h46, .ref h47, .ref h48, .ref h49, .ref h50, .ref h51, .ref h52, .ref h53, .int 0, .int 0, .int 0, .int 0, .long 0, .ref h54, .ref h55, .ref h56, .int 0, .int 0, .long 0]))]) (fun _ => rfl) (fun qs3 H locs hT => ?_)
  refine lv_iload (pc := 740) hx hb dL_law_740 (lv_at hl 1 rfl) ?_
  refine zb_icmp_eq_t (pc := 742) (tgt := 747) hx hb dL_law_742 (by decide) (by decide) ?_
  refine lv_iload (pc := 747) hx hb dL_law_747 (lv_at hl 1 rfl) ?_
  refine zb_if_ne_t (pc := 749) (tgt := 764) hx hb dL_law_749 (by decide) (by decide) ?_
  refine lv_goto (pc := 764) (tgt := 1719) hx hb dL_law_764 (by decide) ?_
  exact q_end hx hb hr hlk hX hbl hT (lv_sub hl [2, 6] rfl) (Nat.le_of_ble_eq_true rfl) (Nat.le_of_ble_eq_true rfl)
set_option maxHeartbeats 4000000 in
set_option maxRecDepth 100000 in
theorem q_path_0_neg {p : Program} {l : Launch} {e : Env} {s : State} {m : MethodId} {below : List Frame} {meth : Method} {c : Code} {H : Heap} {locs : List Loc} {ls : Array Slot} {G : va_G} {cy : Nat → ClassId} {b : Nat} {xs : Nat → Int32} (C : zC l G cy p s m meth c b 6 xs) (h0 h1 h2 h3 h4 h5 h6 h7 h8 h9 h10 h11 h12 h13 h14 h15 h16 h17 h18 h19 h20 h21 h22 h23 h24 h25 h26 h27 h28 h29 h30 h31 h32 h33 h34 h35 h36 h37 h38 h39 h40 h41 h42 h43 h44 h45 h46 h47 h48 h49 h50 h51 h52 h53 h54 h55 h56 : Nat) (hneg : ((xs 1) : Int32) < 0) (hT : zT G (fun q => s.heap.size ≤ q) s.heap H locs [(h0, .inr (11, [.ref h5, .ref h6, .ref h7, .ref h8, .ref h9, .ref h10, .ref h11, .ref h12, .ref h13, .ref h14, .ref h1, .int (-1), .int (-1), .int (-1), .int (-1)])), (h1, .inl (cy 0, 3, .inl (kc 0))), (h2, .inr (12, [.int 0, .ref h3, .int 0, .int 0, .int 0, .int (-1), .int 0, .int 0, .ref h15, .ref h16, .ref h17, .ref h18, .int 0, .ref h19, .ref h20, .int 0, .ref h21, .ref h22, .ref h23, .ref h24, .ref h25, .int 0, .ref h26, .ref h27, .ref h28, .int 0, .ref h29, .ref h30, .ref h31, .int 0, .int 0, .ref h32, .ref h33, .ref h34, .int 0, .long 0, .long 0, .ref h35, .ref h36, .ref h37, .ref h38, .ref h39, .ref h40, .ref h41, .ref h42, .ref h43, .ref h44, .int 0, .int 0, .ref h45, .ref h46, .ref h47, .ref h48, .ref h49, .ref h50, .ref h51, .ref h52, .ref h53, .int 0, .int 0, .int 0, .int 0, .long 0, .ref h54, .ref h55, .ref h56, .int 0, .int 0, .long 0])), (h3, .inl (cy 0, 3, .inl (kc 0)))]) (hl : lv_has ls 8 [(0, .ref b), (1, .ref h0), (2, .ref h2), (3, .ref h4), (4, .int 0)]) : W p l e (zR 1000 600002 7302232) s m #[Value.ref b] below meth c H locs 476 284354 (lw_Z below #[Value.ref b] s) (F0 m 767 ls []) := by
  obtain ⟨hl0, hx, hb, hr, hml, hown, hts, hX, hbl, hlk, hK, hE, q1, v1, q2, v2, hS⟩ := C
  have hA : ∀ q : Nat, s.heap.size ≤ q → (fun q => s.heap.size ≤ q) q := fun _ h => h
  have hbA : ¬ (fun q => s.heap.size ≤ q) b := Nat.not_le.mpr hbl
  refine lv_aload_n (pc := 767) hx hb dL_law_767 rfl (lv_at hl 1 rfl) ?_
  refine lv_aload_n (pc := 768) hx hb dL_law_768 rfl (lv_at hl 0 rfl) ?_
  refine lv_iload (pc := 769) hx hb dL_law_769 (lv_at hl 4 rfl) ?_
  refine lv_iconst (pc := 771) (v := 1) hx hb dL_law_771 (by decide) ?_
  refine z_iadd (pc := 772) (v := 1) hx hb dL_law_772 (by decide) ?_
  refine z_sld (pc := 773) (v := (xs 1)) hx hb hX hbl hbA hT 1 rfl (by decide) rfl dL_law_773 ?_
  refine lv_aload_n (pc := 774) hx hb dL_law_774 rfl (lv_at hl 0 rfl) ?_
  refine lv_iload (pc := 775) hx hb dL_law_775 (lv_at hl 4 rfl) ?_
  refine lv_iconst (pc := 777) (v := 2) hx hb dL_law_777 (by decide) ?_
  refine z_iadd (pc := 778) (v := 2) hx hb dL_law_778 (by decide) ?_
  refine z_sld (pc := 779) (v := (xs 2)) hx hb hX hbl hbA hT 2 rfl (by decide) rfl dL_law_779 ?_
  refine lv_aload_n (pc := 780) hx hb dL_law_780 rfl (lv_at hl 3 rfl) ?_
  refine z_eHI (pc := 781) zE_ok hE hx hb hml hown hts hK hA hT lkH_RL_129 ((k850_L_path l G cy hl0 h0 h1 h4 h5 h6 h7 h8 h9 h10 h11 h12 h13 h14 (xs 1) (xs 2) hneg).e) [0, 1] [2, 3] rfl rfl rfl rfl rfl (by decide) rfl hl.1 rfl (Nat.le_of_ble_eq_true rfl) dL_law_781 ⟨Nat.le_of_ble_eq_true rfl, Nat.le_of_ble_eq_true rfl⟩ (fun _ => [(h2, .inr (12, [.int 0, .ref h3, .int 0, .int 0, .int 0, .int (-1), .int 0, .int 0, .ref h15, .ref h16, .ref h17, .ref h18, .int 0, .ref h19, .ref h20, .int 0, .ref h21, .ref h22, .ref h23, .ref h24, .ref h25, .int 0, .ref h26, .ref h27, .ref h28, .int 0, .ref h29, .ref h30, .ref h31, .int 0, .int 0, .ref h32, .ref h33, .ref h34, .int 0, .long 0, .long 0, .ref h35, .ref h36, .ref h37, .ref h38, .ref h39, .ref h40, .ref h41, .ref h42, .ref h43, .ref h44, .int 0, .int 0, .ref h45, .ref h46, .ref h47, .ref h48, .ref h49, .ref h50, .ref h51, .ref h52, .ref h53, .int 0, .int 0, .int 0, .int 0, .long 0, .ref h54, .ref h55, .ref h56, .int 0, .int 0, .long 0])), (h3, .inl (cy 0, 3, .inl (kc 0)))]) (fun _ => rfl) (fun qs1 H locs hT => ?_)
  refine lv_istore (pc := 784) (lv' := [(5, .int 1), (0, .ref b), (1, .ref h0), (2, .ref h2), (3, .ref h4), (4, .int 0)]) hx hb dL_law_784 hl (by decide) rfl (fun ls hl => ?_)
  refine lv_aload_n (pc := 786) hx hb dL_law_786 rfl (lv_at hl 3 rfl) ?_
  refine lv_aload_n (pc := 787) hx hb dL_law_787 rfl (lv_at hl 1 rfl) ?_
  refine lv_iload (pc := 788) hx hb dL_law_788 (lv_at hl 5 rfl) ?_
  refine lv_iconst (pc := 790) (v := 1) hx hb dL_law_790 (by decide) ?_
  refine z_iadd (pc := 791) (v := 1) hx hb dL_law_791 (by decide) ?_
  refine z_sld (pc := 792) (v := (xs 1)) hx hb hX hbl hbA hT 1 rfl (by decide) rfl dL_law_792 ?_
  refine lv_aload_n (pc := 793) hx hb dL_law_793 rfl (lv_at hl 1 rfl) ?_
  refine lv_iload (pc := 794) hx hb dL_law_794 (lv_at hl 5 rfl) ?_
  refine lv_iconst (pc := 796) (v := 2) hx hb dL_law_796 (by decide) ?_
  refine z_iadd (pc := 797) (v := 2) hx hb dL_law_797 (by decide) ?_
  refine z_sld (pc := 798) (v := (xs 2)) hx hb hX hbl hbA hT 2 rfl (by decide) rfl dL_law_798 ?_
  refine z_cVI (pc := 799) hx hb hml hown hts hK hA hT lkV_RL_131 (k697_X12_path l G cy h2 h3 h15 h16 h17 h18 h19 h20 h21 h22 h23 h24 h25 h26 h27 h28 h29 h30 h31 h32 h33 h34 h35 h36 h37 h38 h39 h40 h41 h42 h43 h44 h45 h46 h47 h48 h49 h50 h51 h52 h53 h54 h55 h56 (xs 1) (xs 2) hneg) [0, 1] [] rfl rfl rfl rfl rfl 0 rfl rfl (by decide) rfl hl.1 rfl (Nat.le_of_ble_eq_true rfl) dL_law_799 ⟨Nat.le_of_ble_eq_true rfl, Nat.le_of_ble_eq_true rfl⟩ (fun _ => [(h2, .inr (12, [.int 1, .ref h3, .int 0, .int 0, .int 0, .int (-1), .int 0, .int 0, .ref h15, .ref h16, .ref h17, .ref h18, .int 0, .ref h19, .ref h20, .int 0, .ref h21, .ref h22, .ref h23, .ref h24, .ref h25, .int 0, .ref h26, .ref h27, .ref h28, .int 0, .ref h29, .ref h30, .ref h31, .int 0, .int 0, .ref h32, .ref h33, .ref h34, .int 0, .long 0, .long 0, .ref h35, .ref h36, .ref h37, .ref h38, .ref h39, .ref h40, .ref h41, .ref h42, .ref h43, .ref h44, .int 0, .int 0, .ref h45, .ref h46, .ref h47, .ref h48, .ref h49, .ref h50, .ref h51, .ref h52, .ref h53, .int 0, .int 0, .int 0, .int 0, .long 0, .ref h54, .ref h55, .ref h56, .int 0, .int 0, .long 0]))]) (fun _ => rfl) (fun qs2 H locs hT => ?_)
  refine lv_istore (pc := 802) (lv' := [(6, .int 0), (5, .int 1), (0, .ref b), (1, .ref h0), (2, .ref h2), (3, .ref h4), (4, .int 0)]) hx hb dL_law_802 hl (by decide) rfl (fun ls hl => ?_)
  refine lv_aload_n (pc := 804) hx hb dL_law_804 rfl (lv_at hl 4 rfl) ?_
  refine z_cVI (pc := 805) hx hb hml hown hts hK hA hT lkV_RL_96 (k1051_X12_thrown l G cy h2 h3 h15 h16 h17 h18 h19 h20 h21 h22 h23 h24 h25 h26 h27 h28 h29 h30 h31 h32 h33 h34 h35 h36 h37 h38 h39 h40 h41 h42 h43 h44 h45 h46 h47 h48 h49 h50 h51 h52 h53 h54 h55 h56) [0] [] rfl rfl rfl rfl rfl 0 rfl rfl (by decide) rfl hl.1 rfl (Nat.le_of_ble_eq_true rfl) dL_law_805 ⟨Nat.le_of_ble_eq_true rfl, Nat.le_of_ble_eq_true rfl⟩ (fun _ => [(h2, .inr (12, [.int 1, .ref h3, .int 0, .int 0, .int 0, .int (-1), .int 0, .int 0, .ref h15, .ref h16, .ref h17, .ref h18, .int 0, .ref h19, .ref h20, .int 0, .ref h21, .ref h22, .ref h23, .ref h24, .ref h25, .int 0, .ref h26, .ref h27, .ref h28, .int 0, .ref h29, .ref h30, .ref h31, .int 0, .int 0, .ref h32, .ref h33, .ref h34, .int 0, .long 0, .long 0, .ref h35, .ref h36, .ref h37, .ref h38, .ref h39, .ref h40, .ref h41, .ref h42, .ref h43, .ref h44, .int 0, .int 0, .ref h45, .ref h46, .ref h47, .ref h48, .ref h49, .ref h50, .ref h51, .ref h52, .ref h53, .int 0, .int 0, .int 0, .int 0, .long 0, .ref h54, .ref h55, .ref h56, .int 0, .int 0, .long 0]))]) (fun _ => rfl) (fun qs3 H locs hT => ?_)
  refine lv_iload (pc := 808) hx hb dL_law_808 (lv_at hl 1 rfl) ?_
  refine zb_icmp_eq_t (pc := 810) (tgt := 815) hx hb dL_law_810 (by decide) (by decide) ?_
  refine lv_iload (pc := 815) hx hb dL_law_815 (lv_at hl 1 rfl) ?_
  refine zb_if_ne_t (pc := 817) (tgt := 832) hx hb dL_law_817 (by decide) (by decide) ?_
  refine lv_goto (pc := 832) (tgt := 1719) hx hb dL_law_832 (by decide) ?_
  exact q_end hx hb hr hlk hX hbl hT (lv_sub hl [2, 6] rfl) (Nat.le_of_ble_eq_true rfl) (Nat.le_of_ble_eq_true rfl)
set_option maxHeartbeats 4000000 in
set_option maxRecDepth 100000 in
theorem q_path_0_big {p : Program} {l : Launch} {e : Env} {s : State} {m : MethodId} {below : List Frame} {meth : Method} {c : Code} {H : Heap} {locs : List Loc} {ls : Array Slot} {G : va_G} {cy : Nat → ClassId} {b : Nat} {xs : Nat → Int32} (C : zC l G cy p s m meth c b 6 xs) (h0 h1 h2 h3 h4 h5 h6 h7 h8 h9 h10 h11 h12 h13 h14 h15 h16 h17 h18 h19 h20 h21 h22 h23 h24 h25 h26 h27 h28 h29 h30 h31 h32 h33 h34 h35 h36 h37 h38 h39 h40 h41 h42 h43 h44 h45 h46 h47 h48 h49 h50 h51 h52 h53 h54 h55 h56 : Nat) (hb1 : ¬ ((xs 1) : Int32) < 0) (hb2 : ¬ ((xs 1) : Int32) < 6) (hb3 : (5 : Int32) < (xs 1)) (hT : zT G (fun q => s.heap.size ≤ q) s.heap H locs [(h0, .inr (11, [.ref h5, .ref h6, .ref h7, .ref h8, .ref h9, .ref h10, .ref h11, .ref h12, .ref h13, .ref h14, .ref h1, .int (-1), .int (-1), .int (-1), .int (-1)])), (h1, .inl (cy 0, 3, .inl (kc 0))), (h2, .inr (12, [.int 0, .ref h3, .int 0, .int 0, .int 0, .int (-1), .int 0, .int 0, .ref h15, .ref h16, .ref h17, .ref h18, .int 0, .ref h19, .ref h20, .int 0, .ref h21, .ref h22, .ref h23, .ref h24, .ref h25, .int 0, .ref h26, .ref h27, .ref h28, .int 0, .ref h29, .ref h30, .ref h31, .int 0, .int 0, .ref h32, .ref h33, .ref h34, .int 0, .long 0, .long 0, .ref h35, .ref h36, .ref h37, .ref h38, .ref h39, .ref h40, .ref h41, .ref h42, .ref h43, .ref h44, .int 0, .int 0, .ref h45, .ref h46, .ref h47, .ref h48, .ref h49, .ref h50, .ref h51, .ref h52, .ref h53, .int 0, .int 0, .int 0, .int 0, .long 0, .ref h54, .ref h55, .ref h56, .int 0, .int 0, .long 0])), (h3, .inl (cy 0, 3, .inl (kc 0)))]) (hl : lv_has ls 8 [(0, .ref b), (1, .ref h0), (2, .ref h2), (3, .ref h4), (4, .int 0)]) : W p l e (zR 1000 600002 7302232) s m #[Value.ref b] below meth c H locs 476 284354 (lw_Z below #[Value.ref b] s) (F0 m 767 ls []) := by
  obtain ⟨hl0, hx, hb, hr, hml, hown, hts, hX, hbl, hlk, hK, hE, q1, v1, q2, v2, hS⟩ := C
  have hA : ∀ q : Nat, s.heap.size ≤ q → (fun q => s.heap.size ≤ q) q := fun _ h => h
  have hbA : ¬ (fun q => s.heap.size ≤ q) b := Nat.not_le.mpr hbl
  refine lv_aload_n (pc := 767) hx hb dL_law_767 rfl (lv_at hl 1 rfl) ?_
  refine lv_aload_n (pc := 768) hx hb dL_law_768 rfl (lv_at hl 0 rfl) ?_
  refine lv_iload (pc := 769) hx hb dL_law_769 (lv_at hl 4 rfl) ?_
  refine lv_iconst (pc := 771) (v := 1) hx hb dL_law_771 (by decide) ?_
  refine z_iadd (pc := 772) (v := 1) hx hb dL_law_772 (by decide) ?_
  refine z_sld (pc := 773) (v := (xs 1)) hx hb hX hbl hbA hT 1 rfl (by decide) rfl dL_law_773 ?_
  refine lv_aload_n (pc := 774) hx hb dL_law_774 rfl (lv_at hl 0 rfl) ?_
  refine lv_iload (pc := 775) hx hb dL_law_775 (lv_at hl 4 rfl) ?_
  refine lv_iconst (pc := 777) (v := 2) hx hb dL_law_777 (by decide) ?_
  refine z_iadd (pc := 778) (v := 2) hx hb dL_law_778 (by decide) ?_
  refine z_sld (pc := 779) (v := (xs 2)) hx hb hX hbl hbA hT 2 rfl (by decide) rfl dL_law_779 ?_
  refine lv_aload_n (pc := 780) hx hb dL_law_780 rfl (lv_at hl 3 rfl) ?_
  refine z_eHI (pc := 781) zE_ok hE hx hb hml hown hts hK hA hT lkH_RL_129 ((k851_L_path l G cy hl0 h0 h1 h4 h5 h6 h7 h8 h9 h10 h11 h12 h13 h14 (xs 1) (xs 2) hb1 hb2).e) [0, 1] [2, 3] rfl rfl rfl rfl rfl (by decide) rfl hl.1 rfl (Nat.le_of_ble_eq_true rfl) dL_law_781 ⟨Nat.le_of_ble_eq_true rfl, Nat.le_of_ble_eq_true rfl⟩ (fun _ => [(h2, .inr (12, [.int 0, .ref h3, .int 0, .int 0, .int 0, .int (-1), .int 0, .int 0, .ref h15, .ref h16, .ref h17, .ref h18, .int 0, .ref h19, .ref h20, .int 0, .ref h21, .ref h22, .ref h23, .ref h24, .ref h25, .int 0, .ref h26, .ref h27, .ref h28, .int 0, .ref h29, .ref h30, .ref h31, .int 0, .int 0, .ref h32, .ref h33, .ref h34, .int 0, .long 0, .long 0, .ref h35, .ref h36, .ref h37, .ref h38, .ref h39, .ref h40, .ref h41, .ref h42, .ref h43, .ref h44, .int 0, .int 0, .ref h45, .ref h46, .ref h47, .ref h48, .ref h49, .ref h50, .ref h51, .ref h52, .ref h53, .int 0, .int 0, .int 0, .int 0, .long 0, .ref h54, .ref h55, .ref h56, .int 0, .int 0, .long 0])), (h3, .inl (cy 0, 3, .inl (kc 0)))]) (fun _ => rfl) (fun qs1 H locs hT => ?_)
  refine lv_istore (pc := 784) (lv' := [(5, .int 1), (0, .ref b), (1, .ref h0), (2, .ref h2), (3, .ref h4), (4, .int 0)]) hx hb dL_law_784 hl (by decide) rfl (fun ls hl => ?_)
  refine lv_aload_n (pc := 786) hx hb dL_law_786 rfl (lv_at hl 3 rfl) ?_
  refine lv_aload_n (pc := 787) hx hb dL_law_787 rfl (lv_at hl 1 rfl) ?_
  refine lv_iload (pc := 788) hx hb dL_law_788 (lv_at hl 5 rfl) ?_
  refine lv_iconst (pc := 790) (v := 1) hx hb dL_law_790 (by decide) ?_
  refine z_iadd (pc := 791) (v := 1) hx hb dL_law_791 (by decide) ?_
  refine z_sld (pc := 792) (v := (xs 1)) hx hb hX hbl hbA hT 1 rfl (by decide) rfl dL_law_792 ?_
  refine lv_aload_n (pc := 793) hx hb dL_law_793 rfl (lv_at hl 1 rfl) ?_
  refine lv_iload (pc := 794) hx hb dL_law_794 (lv_at hl 5 rfl) ?_
  refine lv_iconst (pc := 796) (v := 2) hx hb dL_law_796 (by decide) ?_
  refine z_iadd (pc := 797) (v := 2) hx hb dL_law_797 (by decide) ?_
  refine z_sld (pc := 798) (v := (xs 2)) hx hb hX hbl hbA hT 2 rfl (by decide) rfl dL_law_798 ?_
  refine z_cVI (pc := 799) hx hb hml hown hts hK hA hT lkV_RL_131 (k698_X12_path l G cy h2 h3 h15 h16 h17 h18 h19 h20 h21 h22 h23 h24 h25 h26 h27 h28 h29 h30 h31 h32 h33 h34 h35 h36 h37 h38 h39 h40 h41 h42 h43 h44 h45 h46 h47 h48 h49 h50 h51 h52 h53 h54 h55 h56 (xs 1) (xs 2) hb1 hb3) [0, 1] [] rfl rfl rfl rfl rfl 0 rfl rfl (by decide) rfl hl.1 rfl (Nat.le_of_ble_eq_true rfl) dL_law_799 ⟨Nat.le_of_ble_eq_true rfl, Nat.le_of_ble_eq_true rfl⟩ (fun _ => [(h2, .inr (12, [.int 1, .ref h3, .int 0, .int 0, .int 0, .int (-1), .int 0, .int 0, .ref h15, .ref h16, .ref h17, .ref h18, .int 0, .ref h19, .ref h20, .int 0, .ref h21, .ref h22, .ref h23, .ref h24, .ref h25, .int 0, .ref h26, .ref h27, .ref h28, .int 0, .ref h29, .ref h30, .ref h31, .int 0, .int 0, .ref h32, .ref h33, .ref h34, .int 0, .long 0, .long 0, .ref h35, .ref h36, .ref h37, .ref h38, .ref h39, .ref h40, .ref h41, .ref h42, .ref h43, .ref h44, .int 0, .int 0, .ref h45, .ref h46, .ref h47, .ref h48, .ref h49, .ref h50, .ref h51, .ref h52, .ref h53, .int 0, .int 0, .int 0, .int 0, .long 0, .ref h54, .ref h55, .ref h56, .int 0, .int 0, .long 0]))]) (fun _ => rfl) (fun qs2 H locs hT => ?_)
  refine lv_istore (pc := 802) (lv' := [(6, .int 0), (5, .int 1), (0, .ref b), (1, .ref h0), (2, .ref h2), (3, .ref h4), (4, .int 0)]) hx hb dL_law_802 hl (by decide) rfl (fun ls hl => ?_)
  refine lv_aload_n (pc := 804) hx hb dL_law_804 rfl (lv_at hl 4 rfl) ?_
  refine z_cVI (pc := 805) hx hb hml hown hts hK hA hT lkV_RL_96 (k1051_X12_thrown l G cy h2 h3 h15 h16 h17 h18 h19 h20 h21 h22 h23 h24 h25 h26 h27 h28 h29 h30 h31 h32 h33 h34 h35 h36 h37 h38 h39 h40 h41 h42 h43 h44 h45 h46 h47 h48 h49 h50 h51 h52 h53 h54 h55 h56) [0] [] rfl rfl rfl rfl rfl 0 rfl rfl (by decide) rfl hl.1 rfl (Nat.le_of_ble_eq_true rfl) dL_law_805 ⟨Nat.le_of_ble_eq_true rfl, Nat.le_of_ble_eq_true rfl⟩ (fun _ => [(h2, .inr (12, [.int 1, .ref h3, .int 0, .int 0, .int 0, .int (-1), .int 0, .int 0, .ref h15, .ref h16, .ref h17, .ref h18, .int 0, .ref h19, .ref h20, .int 0, .ref h21, .ref h22, .ref h23, .ref h24, .ref h25, .int 0, .ref h26, .ref h27, .ref h28, .int 0, .ref h29, .ref h30, .ref h31, .int 0, .int 0, .ref h32, .ref h33, .ref h34, .int 0, .long 0, .long 0, .ref h35, .ref h36, .ref h37, .ref h38, .ref h39, .ref h40, .ref h41, .ref h42, .ref h43, .ref h44, .int 0, .int 0, .ref h45, .ref h46, .ref h47, .ref h48, .ref h49, .ref h50, .ref h51, .ref h52, .ref h53, .int 0, .int 0, .int 0, .int 0, .long 0, .ref h54, .ref h55, .ref h56, .int 0, .int 0, .long 0]))]) (fun _ => rfl) (fun qs3 H locs hT => ?_)
  refine lv_iload (pc := 808) hx hb dL_law_808 (lv_at hl 1 rfl) ?_
  refine zb_icmp_eq_t (pc := 810) (tgt := 815) hx hb dL_law_810 (by decide) (by decide) ?_
  refine lv_iload (pc := 815) hx hb dL_law_815 (lv_at hl 1 rfl) ?_
  refine zb_if_ne_t (pc := 817) (tgt := 832) hx hb dL_law_817 (by decide) (by decide) ?_
  refine lv_goto (pc := 832) (tgt := 1719) hx hb dL_law_832 (by decide) ?_
  exact q_end hx hb hr hlk hX hbl hT (lv_sub hl [2, 6] rfl) (Nat.le_of_ble_eq_true rfl) (Nat.le_of_ble_eq_true rfl)
set_option maxHeartbeats 4000000 in
set_option maxRecDepth 100000 in
theorem q_word_0_neg {p : Program} {l : Launch} {e : Env} {s : State} {m : MethodId} {below : List Frame} {meth : Method} {c : Code} {H : Heap} {locs : List Loc} {ls : Array Slot} {G : va_G} {cy : Nat → ClassId} {b : Nat} {xs : Nat → Int32} (C : zC l G cy p s m meth c b 6 xs) (h0 h1 h2 h3 h4 h5 h6 h7 h8 h9 h10 h11 h12 h13 h14 h15 h16 h17 h18 h19 h20 h21 h22 h23 h24 h25 h26 h27 h28 h29 h30 h31 h32 h33 h34 h35 h36 h37 h38 h39 h40 h41 h42 h43 h44 h45 h46 h47 h48 h49 h50 h51 h52 h53 h54 h55 h56 : Nat) (hneg : ((xs 1) : Int32) < 0) (hT : zT G (fun q => s.heap.size ≤ q) s.heap H locs [(h0, .inr (11, [.ref h5, .ref h6, .ref h7, .ref h8, .ref h9, .ref h10, .ref h11, .ref h12, .ref h13, .ref h14, .ref h1, .int (-1), .int (-1), .int (-1), .int (-1)])), (h1, .inl (cy 0, 3, .inl (kc 0))), (h2, .inr (12, [.int 0, .ref h3, .int 0, .int 0, .int 0, .int (-1), .int 0, .int 0, .ref h15, .ref h16, .ref h17, .ref h18, .int 0, .ref h19, .ref h20, .int 0, .ref h21, .ref h22, .ref h23, .ref h24, .ref h25, .int 0, .ref h26, .ref h27, .ref h28, .int 0, .ref h29, .ref h30, .ref h31, .int 0, .int 0, .ref h32, .ref h33, .ref h34, .int 0, .long 0, .long 0, .ref h35, .ref h36, .ref h37, .ref h38, .ref h39, .ref h40, .ref h41, .ref h42, .ref h43, .ref h44, .int 0, .int 0, .ref h45, .ref h46, .ref h47, .ref h48, .ref h49, .ref h50, .ref h51, .ref h52, .ref h53, .int 0, .int 0, .int 0, .int 0, .long 0, .ref h54, .ref h55, .ref h56, .int 0, .int 0, .long 0])), (h3, .inl (cy 0, 3, .inl (kc 0)))]) (hl : lv_has ls 8 [(0, .ref b), (1, .ref h0), (2, .ref h2), (3, .ref h4), (4, .int 0)]) : W p l e (zR 1000 600002 7302232) s m #[Value.ref b] below meth c H locs 476 284354 (lw_Z below #[Value.ref b] s) (F0 m 835 ls []) := by
  obtain ⟨hl0, hx, hb, hr, hml, hown, hts, hX, hbl, hlk, hK, hE, q1, v1, q2, v2, hS⟩ := C
  have hA : ∀ q : Nat, s.heap.size ≤ q → (fun q => s.heap.size ≤ q) q := fun _ h => h
  have hbA : ¬ (fun q => s.heap.size ≤ q) b := Nat.not_le.mpr hbl
  refine lv_aload_n (pc := 835) hx hb dL_law_835 rfl (lv_at hl 1 rfl) ?_
  refine lv_aload_n (pc := 836) hx hb dL_law_836 rfl (lv_at hl 0 rfl) ?_
  refine lv_iload (pc := 837) hx hb dL_law_837 (lv_at hl 4 rfl) ?_
  refine lv_iconst (pc := 839) (v := 1) hx hb dL_law_839 (by decide) ?_
  refine z_iadd (pc := 840) (v := 1) hx hb dL_law_840 (by decide) ?_
  refine z_sld (pc := 841) (v := (xs 1)) hx hb hX hbl hbA hT 1 rfl (by decide) rfl dL_law_841 ?_
  refine lv_aload_n (pc := 842) hx hb dL_law_842 rfl (lv_at hl 0 rfl) ?_
  refine lv_iload (pc := 843) hx hb dL_law_843 (lv_at hl 4 rfl) ?_
  refine lv_iconst (pc := 845) (v := 2) hx hb dL_law_845 (by decide) ?_
  refine z_iadd (pc := 846) (v := 2) hx hb dL_law_846 (by decide) ?_
  refine z_sld (pc := 847) (v := (xs 2)) hx hb hX hbl hbA hT 2 rfl (by decide) rfl dL_law_847 ?_
  refine lv_aload_n (pc := 848) hx hb dL_law_848 rfl (lv_at hl 3 rfl) ?_
  refine z_eHI (pc := 849) zE_ok hE hx hb hml hown hts hK hA hT lkH_RL_132 ((k852_L_word l G cy hl0 h0 h1 h4 h5 h6 h7 h8 h9 h10 h11 h12 h13 h14 (xs 1) (xs 2) hneg).e) [0, 1] [2, 3] rfl rfl rfl rfl rfl (by decide) rfl hl.1 rfl (Nat.le_of_ble_eq_true rfl) dL_law_849 ⟨Nat.le_of_ble_eq_true rfl, Nat.le_of_ble_eq_true rfl⟩ (fun _ => [(h2, .inr (12, [.int 0, .ref h3, .int 0, .int 0, .int 0, .int (-1), .int 0, .int 0, .ref h15, .ref h16, .ref h17, .ref h18, .int 0, .ref h19, .ref h20, .int 0, .ref h21, .ref h22, .ref h23, .ref h24, .ref h25, .int 0, .ref h26, .ref h27, .ref h28, .int 0, .ref h29, .ref h30, .ref h31, .int 0, .int 0, .ref h32, .ref h33, .ref h34, .int 0, .long 0, .long 0, .ref h35, .ref h36, .ref h37, .ref h38, .ref h39, .ref h40, .ref h41, .ref h42, .ref h43, .ref h44, .int 0, .int 0, .ref h45, .ref h46, .ref h47, .ref h48, .ref h49, .ref h50, .ref h51, .ref h52, .ref h53, .int 0, .int 0, .int 0, .int 0, .long 0, .ref h54, .ref h55, .ref h56, .int 0, .int 0, .long 0])), (h3, .inl (cy 0, 3, .inl (kc 0)))]) (fun _ => rfl) (fun qs1 H locs hT => ?_)
  refine lv_istore (pc := 852) (lv' := [(5, .int 1), (0, .ref b), (1, .ref h0), (2, .ref h2), (3, .ref h4), (4, .int 0)]) hx hb dL_law_852 hl (by decide) rfl (fun ls hl => ?_)
  refine lv_aload_n (pc := 854) hx hb dL_law_854 rfl (lv_at hl 3 rfl) ?_
  refine lv_aload_n (pc := 855) hx hb dL_law_855 rfl (lv_at hl 1 rfl) ?_
  refine lv_iload (pc := 856) hx hb dL_law_856 (lv_at hl 5 rfl) ?_
  refine lv_iconst (pc := 858) (v := 1) hx hb dL_law_858 (by decide) ?_
  refine z_iadd (pc := 859) (v := 1) hx hb dL_law_859 (by decide) ?_
  refine z_sld (pc := 860) (v := (xs 1)) hx hb hX hbl hbA hT 1 rfl (by decide) rfl dL_law_860 ?_
  refine lv_aload_n (pc := 861) hx hb dL_law_861 rfl (lv_at hl 1 rfl) ?_
  refine lv_iload (pc := 862) hx hb dL_law_862 (lv_at hl 5 rfl) ?_
  refine lv_iconst (pc := 864) (v := 2) hx hb dL_law_864 (by decide) ?_
  refine z_iadd (pc := 865) (v := 2) hx hb dL_law_865 (by decide) ?_
  refine z_sld (pc := 866) (v := (xs 2)) hx hb hX hbl hbA hT 2 rfl (by decide) rfl dL_law_866 ?_
  refine z_cVI (pc := 867) hx hb hml hown hts hK hA hT lkV_RL_134 (k699_X12_word l G cy h2 h3 h15 h16 h17 h18 h19 h20 h21 h22 h23 h24 h25 h26 h27 h28 h29 h30 h31 h32 h33 h34 h35 h36 h37 h38 h39 h40 h41 h42 h43 h44 h45 h46 h47 h48 h49 h50 h51 h52 h53 h54 h55 h56 (xs 1) (xs 2) hneg) [0, 1] [] rfl rfl rfl rfl rfl 0 rfl rfl (by decide) rfl hl.1 rfl (Nat.le_of_ble_eq_true rfl) dL_law_867 ⟨Nat.le_of_ble_eq_true rfl, Nat.le_of_ble_eq_true rfl⟩ (fun _ => [(h2, .inr (12, [.int 1, .ref h3, .int 0, .int 0, .int 0, .int (-1), .int 0, .int 0, .ref h15, .ref h16, .ref h17, .ref h18, .int 0, .ref h19, .ref h20, .int 0, .ref h21, .ref h22, .ref h23, .ref h24, .ref h25, .int 0, .ref h26, .ref h27, .ref h28, .int 0, .ref h29, .ref h30, .ref h31, .int 0, .int 0, .ref h32, .ref h33, .ref h34, .int 0, .long 0, .long 0, .ref h35, .ref h36, .ref h37, .ref h38, .ref h39, .ref h40, .ref h41, .ref h42, .ref h43, .ref h44, .int 0, .int 0, .ref h45, .ref h46, .ref h47, .ref h48, .ref h49, .ref h50, .ref h51, .ref h52, .ref h53, .int 0, .int 0, .int 0, .int 0, .long 0, .ref h54, .ref h55, .ref h56, .int 0, .int 0, .long 0]))]) (fun _ => rfl) (fun qs2 H locs hT => ?_)
  refine lv_istore (pc := 870) (lv' := [(6, .int 0), (5, .int 1), (0, .ref b), (1, .ref h0), (2, .ref h2), (3, .ref h4), (4, .int 0)]) hx hb dL_law_870 hl (by decide) rfl (fun ls hl => ?_)
  refine lv_aload_n (pc := 872) hx hb dL_law_872 rfl (lv_at hl 4 rfl) ?_
  refine z_cVI (pc := 873) hx hb hml hown hts hK hA hT lkV_RL_96 (k1051_X12_thrown l G cy h2 h3 h15 h16 h17 h18 h19 h20 h21 h22 h23 h24 h25 h26 h27 h28 h29 h30 h31 h32 h33 h34 h35 h36 h37 h38 h39 h40 h41 h42 h43 h44 h45 h46 h47 h48 h49 h50 h51 h52 h53 h54 h55 h56) [0] [] rfl rfl rfl rfl rfl 0 rfl rfl (by decide) rfl hl.1 rfl (Nat.le_of_ble_eq_true rfl) dL_law_873 ⟨Nat.le_of_ble_eq_true rfl, Nat.le_of_ble_eq_true rfl⟩ (fun _ => [(h2, .inr (12, [.int 1, .ref h3, .int 0, .int 0, .int 0, .int (-1), .int 0, .int 0, .ref h15, .ref h16, .ref h17, .ref h18, .int 0, .ref h19, .ref h20, .int 0, .ref h21, .ref h22, .ref h23, .ref h24, .ref h25, .int 0, .ref h26, .ref h27, .ref h28, .int 0, .ref h29, .ref h30, .ref h31, .int 0, .int 0, .ref h32, .ref h33, .ref h34, .int 0, .long 0, .long 0, .ref h35, .ref h36, .ref h37, .ref h38, .ref h39, .ref h40, .ref h41, .ref h42, .ref h43, .ref h44, .int 0, .int 0, .ref h45, .ref h46, .ref h47, .ref h48, .ref h49, .ref h50, .ref h51, .ref h52, .ref h53, .int 0, .int 0, .int 0, .int 0, .long 0, .ref h54, .ref h55, .ref h56, .int 0, .int 0, .long 0]))]) (fun _ => rfl) (fun qs3 H locs hT => ?_)
  refine lv_iload (pc := 876) hx hb dL_law_876 (lv_at hl 1 rfl) ?_
  refine zb_icmp_eq_t (pc := 878) (tgt := 883) hx hb dL_law_878 (by decide) (by decide) ?_
  refine lv_iload (pc := 883) hx hb dL_law_883 (lv_at hl 1 rfl) ?_
  refine zb_if_ne_t (pc := 885) (tgt := 900) hx hb dL_law_885 (by decide) (by decide) ?_
  refine lv_goto (pc := 900) (tgt := 1719) hx hb dL_law_900 (by decide) ?_
  exact q_end hx hb hr hlk hX hbl hT (lv_sub hl [2, 6] rfl) (Nat.le_of_ble_eq_true rfl) (Nat.le_of_ble_eq_true rfl)
set_option maxHeartbeats 4000000 in
set_option maxRecDepth 100000 in
theorem q_word_0_big {p : Program} {l : Launch} {e : Env} {s : State} {m : MethodId} {below : List Frame} {meth : Method} {c : Code} {H : Heap} {locs : List Loc} {ls : Array Slot} {G : va_G} {cy : Nat → ClassId} {b : Nat} {xs : Nat → Int32} (C : zC l G cy p s m meth c b 6 xs) (h0 h1 h2 h3 h4 h5 h6 h7 h8 h9 h10 h11 h12 h13 h14 h15 h16 h17 h18 h19 h20 h21 h22 h23 h24 h25 h26 h27 h28 h29 h30 h31 h32 h33 h34 h35 h36 h37 h38 h39 h40 h41 h42 h43 h44 h45 h46 h47 h48 h49 h50 h51 h52 h53 h54 h55 h56 : Nat) (hb1 : ¬ ((xs 1) : Int32) < 0) (hb2 : ¬ ((xs 1) : Int32) < 6) (hb3 : (5 : Int32) < (xs 1)) (hT : zT G (fun q => s.heap.size ≤ q) s.heap H locs [(h0, .inr (11, [.ref h5, .ref h6, .ref h7, .ref h8, .ref h9, .ref h10, .ref h11, .ref h12, .ref h13, .ref h14, .ref h1, .int (-1), .int (-1), .int (-1), .int (-1)])), (h1, .inl (cy 0, 3, .inl (kc 0))), (h2, .inr (12, [.int 0, .ref h3, .int 0, .int 0, .int 0, .int (-1), .int 0, .int 0, .ref h15, .ref h16, .ref h17, .ref h18, .int 0, .ref h19, .ref h20, .int 0, .ref h21, .ref h22, .ref h23, .ref h24, .ref h25, .int 0, .ref h26, .ref h27, .ref h28, .int 0, .ref h29, .ref h30, .ref h31, .int 0, .int 0, .ref h32, .ref h33, .ref h34, .int 0, .long 0, .long 0, .ref h35, .ref h36, .ref h37, .ref h38, .ref h39, .ref h40, .ref h41, .ref h42, .ref h43, .ref h44, .int 0, .int 0, .ref h45, .ref h46, .ref h47, .ref h48, .ref h49, .ref h50, .ref h51, .ref h52, .ref h53, .int 0, .int 0, .int 0, .int 0, .long 0, .ref h54, .ref h55, .ref h56, .int 0, .int 0, .long 0])), (h3, .inl (cy 0, 3, .inl (kc 0)))]) (hl : lv_has ls 8 [(0, .ref b), (1, .ref h0), (2, .ref h2), (3, .ref h4), (4, .int 0)]) : W p l e (zR 1000 600002 7302232) s m #[Value.ref b] below meth c H locs 476 284354 (lw_Z below #[Value.ref b] s) (F0 m 835 ls []) := by
  obtain ⟨hl0, hx, hb, hr, hml, hown, hts, hX, hbl, hlk, hK, hE, q1, v1, q2, v2, hS⟩ := C
  have hA : ∀ q : Nat, s.heap.size ≤ q → (fun q => s.heap.size ≤ q) q := fun _ h => h
  have hbA : ¬ (fun q => s.heap.size ≤ q) b := Nat.not_le.mpr hbl
  refine lv_aload_n (pc := 835) hx hb dL_law_835 rfl (lv_at hl 1 rfl) ?_
  refine lv_aload_n (pc := 836) hx hb dL_law_836 rfl (lv_at hl 0 rfl) ?_
  refine lv_iload (pc := 837) hx hb dL_law_837 (lv_at hl 4 rfl) ?_
  refine lv_iconst (pc := 839) (v := 1) hx hb dL_law_839 (by decide) ?_
  refine z_iadd (pc := 840) (v := 1) hx hb dL_law_840 (by decide) ?_
  refine z_sld (pc := 841) (v := (xs 1)) hx hb hX hbl hbA hT 1 rfl (by decide) rfl dL_law_841 ?_
  refine lv_aload_n (pc := 842) hx hb dL_law_842 rfl (lv_at hl 0 rfl) ?_
  refine lv_iload (pc := 843) hx hb dL_law_843 (lv_at hl 4 rfl) ?_
  refine lv_iconst (pc := 845) (v := 2) hx hb dL_law_845 (by decide) ?_
  refine z_iadd (pc := 846) (v := 2) hx hb dL_law_846 (by decide) ?_
  refine z_sld (pc := 847) (v := (xs 2)) hx hb hX hbl hbA hT 2 rfl (by decide) rfl dL_law_847 ?_
  refine lv_aload_n (pc := 848) hx hb dL_law_848 rfl (lv_at hl 3 rfl) ?_
  refine z_eHI (pc := 849) zE_ok hE hx hb hml hown hts hK hA hT lkH_RL_132 ((k853_L_word l G cy hl0 h0 h1 h4 h5 h6 h7 h8 h9 h10 h11 h12 h13 h14 (xs 1) (xs 2) hb1 hb2).e) [0, 1] [2, 3] rfl rfl rfl rfl rfl (by decide) rfl hl.1 rfl (Nat.le_of_ble_eq_true rfl) dL_law_849 ⟨Nat.le_of_ble_eq_true rfl, Nat.le_of_ble_eq_true rfl⟩ (fun _ => [(h2, .inr (12, [.int 0, .ref h3, .int 0, .int 0, .int 0, .int (-1), .int 0, .int 0, .ref h15, .ref h16, .ref h17, .ref h18, .int 0, .ref h19, .ref h20, .int 0, .ref h21, .ref h22, .ref h23, .ref h24, .ref h25, .int 0, .ref h26, .ref h27, .ref h28, .int 0, .ref h29, .ref h30, .ref h31, .int 0, .int 0, .ref h32, .ref h33, .ref h34, .int 0, .long 0, .long 0, .ref h35, .ref h36, .ref h37, .ref h38, .ref h39, .ref h40, .ref h41, .ref h42, .ref h43, .ref h44, .int 0, .int 0, .ref h45, .ref h46, .ref h47, .ref h48, .ref h49, .ref h50, .ref h51, .ref h52, .ref h53, .int 0, .int 0, .int 0, .int 0, .long 0, .ref h54, .ref h55, .ref h56, .int 0, .int 0, .long 0])), (h3, .inl (cy 0, 3, .inl (kc 0)))]) (fun _ => rfl) (fun qs1 H locs hT => ?_)
  refine lv_istore (pc := 852) (lv' := [(5, .int 1), (0, .ref b), (1, .ref h0), (2, .ref h2), (3, .ref h4), (4, .int 0)]) hx hb dL_law_852 hl (by decide) rfl (fun ls hl => ?_)
  refine lv_aload_n (pc := 854) hx hb dL_law_854 rfl (lv_at hl 3 rfl) ?_
  refine lv_aload_n (pc := 855) hx hb dL_law_855 rfl (lv_at hl 1 rfl) ?_
  refine lv_iload (pc := 856) hx hb dL_law_856 (lv_at hl 5 rfl) ?_
  refine lv_iconst (pc := 858) (v := 1) hx hb dL_law_858 (by decide) ?_
  refine z_iadd (pc := 859) (v := 1) hx hb dL_law_859 (by decide) ?_
  refine z_sld (pc := 860) (v := (xs 1)) hx hb hX hbl hbA hT 1 rfl (by decide) rfl dL_law_860 ?_
  refine lv_aload_n (pc := 861) hx hb dL_law_861 rfl (lv_at hl 1 rfl) ?_
  refine lv_iload (pc := 862) hx hb dL_law_862 (lv_at hl 5 rfl) ?_
  refine lv_iconst (pc := 864) (v := 2) hx hb dL_law_864 (by decide) ?_
  refine z_iadd (pc := 865) (v := 2) hx hb dL_law_865 (by decide) ?_
  refine z_sld (pc := 866) (v := (xs 2)) hx hb hX hbl hbA hT 2 rfl (by decide) rfl dL_law_866 ?_
  refine z_cVI (pc := 867) hx hb hml hown hts hK hA hT lkV_RL_134 (k700_X12_word l G cy h2 h3 h15 h16 h17 h18 h19 h20 h21 h22 h23 h24 h25 h26 h27 h28 h29 h30 h31 h32 h33 h34 h35 h36 h37 h38 h39 h40 h41 h42 h43 h44 h45 h46 h47 h48 h49 h50 h51 h52 h53 h54 h55 h56 (xs 1) (xs 2) hb1 hb3) [0, 1] [] rfl rfl rfl rfl rfl 0 rfl rfl (by decide) rfl hl.1 rfl (Nat.le_of_ble_eq_true rfl) dL_law_867 ⟨Nat.le_of_ble_eq_true rfl, Nat.le_of_ble_eq_true rfl⟩ (fun _ => [(h2, .inr (12, [.int 1, .ref h3, .int 0, .int 0, .int 0, .int (-1), .int 0, .int 0, .ref h15, .ref h16, .ref h17, .ref h18, .int 0, .ref h19, .ref h20, .int 0, .ref h21, .ref h22, .ref h23, .ref h24, .ref h25, .int 0, .ref h26, .ref h27, .ref h28, .int 0, .ref h29, .ref h30, .ref h31, .int 0, .int 0, .ref h32, .ref h33, .ref h34, .int 0, .long 0, .long 0, .ref h35, .ref h36, .ref h37, .ref h38, .ref h39, .ref h40, .ref h41, .ref h42, .ref h43, .ref h44, .int 0, .int 0, .ref h45, .ref h46, .ref h47, .ref h48, .ref h49, .ref h50, .ref h51, .ref h52, .ref h53, .int 0, .int 0, .int 0, .int 0, .long 0, .ref h54, .ref h55, .ref h56, .int 0, .int 0, .long 0]))]) (fun _ => rfl) (fun qs2 H locs hT => ?_)
  refine lv_istore (pc := 870) (lv' := [(6, .int 0), (5, .int 1), (0, .ref b), (1, .ref h0), (2, .ref h2), (3, .ref h4), (4, .int 0)]) hx hb dL_law_870 hl (by decide) rfl (fun ls hl => ?_)
  refine lv_aload_n (pc := 872) hx hb dL_law_872 rfl (lv_at hl 4 rfl) ?_
  refine z_cVI (pc := 873) hx hb hml hown hts hK hA hT lkV_RL_96 (k1051_X12_thrown l G cy h2 h3 h15 h16 h17 h18 h19 h20 h21 h22 h23 h24 h25 h26 h27 h28 h29 h30 h31 h32 h33 h34 h35 h36 h37 h38 h39 h40 h41 h42 h43 h44 h45 h46 h47 h48 h49 h50 h51 h52 h53 h54 h55 h56) [0] [] rfl rfl rfl rfl rfl 0 rfl rfl (by decide) rfl hl.1 rfl (Nat.le_of_ble_eq_true rfl) dL_law_873 ⟨Nat.le_of_ble_eq_true rfl, Nat.le_of_ble_eq_true rfl⟩ (fun _ => [(h2, .inr (12, [.int 1, .ref h3, .int 0, .int 0, .int 0, .int (-1), .int 0, .int 0, .ref h15, .ref h16, .ref h17, .ref h18, .int 0, .ref h19, .ref h20, .int 0, .ref h21, .ref h22, .ref h23, .ref h24, .ref h25, .int 0, .ref h26, .ref h27, .ref h28, .int 0, .ref h29, .ref h30, .ref h31, .int 0, .int 0, .ref h32, .ref h33, .ref h34, .int 0, .long 0, .long 0, .ref h35, .ref h36, .ref h37, .ref h38, .ref h39, .ref h40, .ref h41, .ref h42, .ref h43, .ref h44, .int 0, .int 0, .ref h45, .ref h46, .ref h47, .ref h48, .ref h49, .ref h50, .ref h51, .ref h52, .ref h53, .int 0, .int 0, .int 0, .int 0, .long 0, .ref h54, .ref h55, .ref h56, .int 0, .int 0, .long 0]))]) (fun _ => rfl) (fun qs3 H locs hT => ?_)
  refine lv_iload (pc := 876) hx hb dL_law_876 (lv_at hl 1 rfl) ?_
  refine zb_icmp_eq_t (pc := 878) (tgt := 883) hx hb dL_law_878 (by decide) (by decide) ?_
  refine lv_iload (pc := 883) hx hb dL_law_883 (lv_at hl 1 rfl) ?_
  refine zb_if_ne_t (pc := 885) (tgt := 900) hx hb dL_law_885 (by decide) (by decide) ?_
  refine lv_goto (pc := 900) (tgt := 1719) hx hb dL_law_900 (by decide) ?_
  exact q_end hx hb hr hlk hX hbl hT (lv_sub hl [2, 6] rfl) (Nat.le_of_ble_eq_true rfl) (Nat.le_of_ble_eq_true rfl)
set_option maxHeartbeats 4000000 in
set_option maxRecDepth 100000 in
theorem q_word_1_neg {p : Program} {l : Launch} {e : Env} {s : State} {m : MethodId} {below : List Frame} {meth : Method} {c : Code} {H : Heap} {locs : List Loc} {ls : Array Slot} {G : va_G} {cy : Nat → ClassId} {b : Nat} {xs : Nat → Int32} (C : zC l G cy p s m meth c b 6 xs) (h0 h1 h2 h3 h4 h5 h6 h7 h8 h9 h10 h11 h12 h13 h14 h15 h16 h17 h18 h19 h20 h21 h22 h23 h24 h25 h26 h27 h28 h29 h30 h31 h32 h33 h34 h35 h36 h37 h38 h39 h40 h41 h42 h43 h44 h45 h46 h47 h48 h49 h50 h51 h52 h53 h54 h55 h56 h57 : Nat) (j : Nat) (hloj : 0 ≤ j) (hhij : j < 6) (hs1 : xs 1 = (nI j)) (hneg : ((xs 2) : Int32) < 0) (hT : zT G (fun q => s.heap.size ≤ q) s.heap H locs [(h0, .inr (11, [.ref h6, .ref h7, .ref h1, .ref h8, .ref h9, .ref h10, .ref h11, .ref h12, .ref h13, .ref h14, .ref h2, .int (-1), .int (-1), .int (-1), .int (-1)])), (h1, .inr (9, [.int 0, .ref h15, .int 0, .int 0, .int 0, .int 0])), (h2, .inl (cy 0, 3, .inl (kc 0))), (h3, .inr (12, [.int 0, .ref h4, .int 0, .int 0, .int 0, .int (-1), .int 0, .int 0, .ref h16, .ref h17, .ref h18, .ref h19, .int 0, .ref h20, .ref h21, .int 0, .ref h22, .ref h23, .ref h24, .ref h25, .ref h26, .int 0, .ref h27, .ref h28, .ref h29, .int 0, .ref h30, .ref h31, .ref h32, .int 0, .int 0, .ref h33, .ref h34, .ref h35, .int 0, .long 0, .long 0, .ref h36, .ref h37, .ref h38, .ref h39, .ref h40, .ref h41, .ref h42, .ref h43, .ref h44, .ref h45, .int 0, .int 0, .ref h46, .ref h47, .ref h48, .ref h49, .ref h50, .ref h51, .ref h52, .ref h53, .ref h54, .int 0, .int 0, .int 0, .int 0, .long 0, .ref h55, .ref h56, .ref h57, .int 0, .int 0, .long 0])), (h4, .inl (cy 0, 3, .inl (kc 0)))]) (hl : lv_has ls 8 [(0, .ref b), (1, .ref h0), (2, .ref h3), (3, .ref h5), (4, .int 0)]) : W p l e (zR 1000 600002 7302232) s m #[Value.ref b] below meth c H locs 476 284354 (lw_Z below #[Value.ref b] s) (F0 m 835 ls []) := by
  obtain ⟨hl0, hx, hb, hr, hml, hown, hts, hX, hbl, hlk, hK, hE, q1, v1, q2, v2, hS⟩ := C
  have hA : ∀ q : Nat, s.heap.size ≤ q → (fun q => s.heap.size ≤ q) q := fun _ h => h
  have hbA : ¬ (fun q => s.heap.size ≤ q) b := Nat.not_le.mpr hbl
  refine lv_aload_n (pc := 835) hx hb dL_law_835 rfl (lv_at hl 1 rfl) ?_
  refine lv_aload_n (pc := 836) hx hb dL_law_836 rfl (lv_at hl 0 rfl) ?_
  refine lv_iload (pc := 837) hx hb dL_law_837 (lv_at hl 4 rfl) ?_
  refine lv_iconst (pc := 839) (v := 1) hx hb dL_law_839 (by decide) ?_
  refine z_iadd (pc := 840) (v := 1) hx hb dL_law_840 (by decide) ?_
  refine z_sld (pc := 841) (v := (nI j)) hx hb hX hbl hbA hT 1 rfl (by decide) hs1 dL_law_841 ?_
  refine lv_aload_n (pc := 842) hx hb dL_law_842 rfl (lv_at hl 0 rfl) ?_
  refine lv_iload (pc := 843) hx hb dL_law_843 (lv_at hl 4 rfl) ?_
  refine lv_iconst (pc := 845) (v := 2) hx hb dL_law_845 (by decide) ?_
  refine z_iadd (pc := 846) (v := 2) hx hb dL_law_846 (by decide) ?_
  refine z_sld (pc := 847) (v := (xs 2)) hx hb hX hbl hbA hT 2 rfl (by decide) rfl dL_law_847 ?_
  refine lv_aload_n (pc := 848) hx hb dL_law_848 rfl (lv_at hl 3 rfl) ?_
  refine z_eHI (pc := 849) zE_ok hE hx hb hml hown hts hK hA hT lkH_RL_132 ((k854_L_word l G cy hl0 h0 h1 h2 h5 h6 h7 h8 h9 h10 h11 h12 h13 h14 h15 (xs 2) j (by omega) (by omega) hneg).e) [0, 1, 2] [3, 4] rfl rfl rfl rfl rfl (by decide) rfl hl.1 rfl (Nat.le_of_ble_eq_true rfl) dL_law_849 ⟨Nat.le_of_ble_eq_true rfl, Nat.le_of_ble_eq_true rfl⟩ (fun _ => [(h3, .inr (12, [.int 0, .ref h4, .int 0, .int 0, .int 0, .int (-1), .int 0, .int 0, .ref h16, .ref h17, .ref h18, .ref h19, .int 0, .ref h20, .ref h21, .int 0, .ref h22, .ref h23, .ref h24, .ref h25, .ref h26, .int 0, .ref h27, .ref h28, .ref h29, .int 0, .ref h30, .ref h31, .ref h32, .int 0, .int 0, .ref h33, .ref h34, .ref h35, .int 0, .long 0, .long 0, .ref h36, .ref h37, .ref h38, .ref h39, .ref h40, .ref h41, .ref h42, .ref h43, .ref h44, .ref h45, .int 0, .int 0, .ref h46, .ref h47, .ref h48, .ref h49, .ref h50, .ref h51, .ref h52, .ref h53, .ref h54, .int 0, .int 0, .int 0, .int 0, .long 0, .ref h55, .ref h56, .ref h57, .int 0, .int 0, .long 0])), (h4, .inl (cy 0, 3, .inl (kc 0)))]) (fun _ => rfl) (fun qs1 H locs hT => ?_)
  refine lv_istore (pc := 852) (lv' := [(5, .int 2), (0, .ref b), (1, .ref h0), (2, .ref h3), (3, .ref h5), (4, .int 0)]) hx hb dL_law_852 hl (by decide) rfl (fun ls hl => ?_)
  refine lv_aload_n (pc := 854) hx hb dL_law_854 rfl (lv_at hl 3 rfl) ?_
  refine lv_aload_n (pc := 855) hx hb dL_law_855 rfl (lv_at hl 1 rfl) ?_
  refine lv_iload (pc := 856) hx hb dL_law_856 (lv_at hl 5 rfl) ?_
  refine lv_iconst (pc := 858) (v := 1) hx hb dL_law_858 (by decide) ?_
  refine z_iadd (pc := 859) (v := 1) hx hb dL_law_859 (by decide) ?_
  refine z_sld (pc := 860) (v := (nI j)) hx hb hX hbl hbA hT 1 rfl (by decide) hs1 dL_law_860 ?_
  refine lv_aload_n (pc := 861) hx hb dL_law_861 rfl (lv_at hl 1 rfl) ?_
  refine lv_iload (pc := 862) hx hb dL_law_862 (lv_at hl 5 rfl) ?_
  refine lv_iconst (pc := 864) (v := 2) hx hb dL_law_864 (by decide) ?_
  refine z_iadd (pc := 865) (v := 2) hx hb dL_law_865 (by decide) ?_
  refine z_sld (pc := 866) (v := (xs 2)) hx hb hX hbl hbA hT 2 rfl (by decide) rfl dL_law_866 ?_
  refine z_cVI (pc := 867) hx hb hml hown hts hK hA hT lkV_RL_134 (k701_X12_word l G cy h3 h4 h16 h17 h18 h19 h20 h21 h22 h23 h24 h25 h26 h27 h28 h29 h30 h31 h32 h33 h34 h35 h36 h37 h38 h39 h40 h41 h42 h43 h44 h45 h46 h47 h48 h49 h50 h51 h52 h53 h54 h55 h56 h57 (xs 2) j (by omega) (by omega) hneg) [0, 1] [] rfl rfl rfl rfl rfl 0 rfl rfl (by decide) rfl hl.1 rfl (Nat.le_of_ble_eq_true rfl) dL_law_867 ⟨Nat.le_of_ble_eq_true rfl, Nat.le_of_ble_eq_true rfl⟩ (fun _ => [(h3, .inr (12, [.int 2, .ref h4, .int 0, .int 0, .int 0, .int (-1), .int 0, .int 0, .ref h16, .ref h17, .ref h18, .ref h19, .int 0, .ref h20, .ref h21, .int 0, .ref h22, .ref h23, .ref h24, .ref h25, .ref h26, .int 0, .ref h27, .ref h28, .ref h29, .int 0, .ref h30, .ref h31, .ref h32, .int 0, .int 0, .ref h33, .ref h34, .ref h35, .int 0, .long 0, .long 0, .ref h36, .ref h37, .ref h38, .ref h39, .ref h40, .ref h41, .ref h42, .ref h43, .ref h44, .ref h45, .int 0, .int 0, .ref h46, .ref h47, .ref h48, .ref h49, .ref h50, .ref h51, .ref h52, .ref h53, .ref h54, .int 0, .int 0, .int 0, .int 0, .long 0, .ref h55, .ref h56, .ref h57, .int 0, .int 0, .long 0]))]) (fun _ => rfl) (fun qs2 H locs hT => ?_)
  refine lv_istore (pc := 870) (lv' := [(6, .int 0), (5, .int 2), (0, .ref b), (1, .ref h0), (2, .ref h3), (3, .ref h5), (4, .int 0)]) hx hb dL_law_870 hl (by decide) rfl (fun ls hl => ?_)
  refine lv_aload_n (pc := 872) hx hb dL_law_872 rfl (lv_at hl 4 rfl) ?_
  refine z_cVI (pc := 873) hx hb hml hown hts hK hA hT lkV_RL_96 (k1052_X12_thrown l G cy h3 h4 h16 h17 h18 h19 h20 h21 h22 h23 h24 h25 h26 h27 h28 h29 h30 h31 h32 h33 h34 h35 h36 h37 h38 h39 h40 h41 h42 h43 h44 h45 h46 h47 h48 h49 h50 h51 h52 h53 h54 h55 h56 h57) [0] [] rfl rfl rfl rfl rfl 0 rfl rfl (by decide) rfl hl.1 rfl (Nat.le_of_ble_eq_true rfl) dL_law_873 ⟨Nat.le_of_ble_eq_true rfl, Nat.le_of_ble_eq_true rfl⟩ (fun _ => [(h3, .inr (12, [.int 2, .ref h4, .int 0, .int 0, .int 0, .int (-1), .int 0, .int 0, .ref h16, .ref h17, .ref h18, .ref h19, .int 0, .ref h20, .ref h21, .int 0, .ref h22, .ref h23, .ref h24, .ref h25, .ref h26, .int 0, .ref h27, .ref h28, .ref h29, .int 0, .ref h30, .ref h31, .ref h32, .int 0, .int 0, .ref h33, .ref h34, .ref h35, .int 0, .long 0, .long 0, .ref h36, .ref h37, .ref h38, .ref h39, .ref h40, .ref h41, .ref h42, .ref h43, .ref h44, .ref h45, .int 0, .int 0, .ref h46, .ref h47, .ref h48, .ref h49, .ref h50, .ref h51, .ref h52, .ref h53, .ref h54, .int 0, .int 0, .int 0, .int 0, .long 0, .ref h55, .ref h56, .ref h57, .int 0, .int 0, .long 0]))]) (fun _ => rfl) (fun qs3 H locs hT => ?_)
  refine lv_iload (pc := 876) hx hb dL_law_876 (lv_at hl 1 rfl) ?_
  refine zb_icmp_eq_t (pc := 878) (tgt := 883) hx hb dL_law_878 (by decide) (by decide) ?_
  refine lv_iload (pc := 883) hx hb dL_law_883 (lv_at hl 1 rfl) ?_
  refine zb_if_ne_t (pc := 885) (tgt := 900) hx hb dL_law_885 (by decide) (by decide) ?_
  refine lv_goto (pc := 900) (tgt := 1719) hx hb dL_law_900 (by decide) ?_
  exact q_end hx hb hr hlk hX hbl hT (lv_sub hl [2, 6] rfl) (Nat.le_of_ble_eq_true rfl) (Nat.le_of_ble_eq_true rfl)
set_option maxHeartbeats 4000000 in
set_option maxRecDepth 100000 in
theorem q_word_1_big {p : Program} {l : Launch} {e : Env} {s : State} {m : MethodId} {below : List Frame} {meth : Method} {c : Code} {H : Heap} {locs : List Loc} {ls : Array Slot} {G : va_G} {cy : Nat → ClassId} {b : Nat} {xs : Nat → Int32} (C : zC l G cy p s m meth c b 6 xs) (h0 h1 h2 h3 h4 h5 h6 h7 h8 h9 h10 h11 h12 h13 h14 h15 h16 h17 h18 h19 h20 h21 h22 h23 h24 h25 h26 h27 h28 h29 h30 h31 h32 h33 h34 h35 h36 h37 h38 h39 h40 h41 h42 h43 h44 h45 h46 h47 h48 h49 h50 h51 h52 h53 h54 h55 h56 h57 : Nat) (j : Nat) (hloj : 0 ≤ j) (hhij : j < 6) (hs1 : xs 1 = (nI j)) (hb1 : ¬ ((xs 2) : Int32) < 0) (hb2 : (0 : Int32) < (xs 2)) (hT : zT G (fun q => s.heap.size ≤ q) s.heap H locs [(h0, .inr (11, [.ref h6, .ref h7, .ref h1, .ref h8, .ref h9, .ref h10, .ref h11, .ref h12, .ref h13, .ref h14, .ref h2, .int (-1), .int (-1), .int (-1), .int (-1)])), (h1, .inr (9, [.int 0, .ref h15, .int 0, .int 0, .int 0, .int 0])), (h2, .inl (cy 0, 3, .inl (kc 0))), (h3, .inr (12, [.int 0, .ref h4, .int 0, .int 0, .int 0, .int (-1), .int 0, .int 0, .ref h16, .ref h17, .ref h18, .ref h19, .int 0, .ref h20, .ref h21, .int 0, .ref h22, .ref h23, .ref h24, .ref h25, .ref h26, .int 0, .ref h27, .ref h28, .ref h29, .int 0, .ref h30, .ref h31, .ref h32, .int 0, .int 0, .ref h33, .ref h34, .ref h35, .int 0, .long 0, .long 0, .ref h36, .ref h37, .ref h38, .ref h39, .ref h40, .ref h41, .ref h42, .ref h43, .ref h44, .ref h45, .int 0, .int 0, .ref h46, .ref h47, .ref h48, .ref h49, .ref h50, .ref h51, .ref h52, .ref h53, .ref h54, .int 0, .int 0, .int 0, .int 0, .long 0, .ref h55, .ref h56, .ref h57, .int 0, .int 0, .long 0])), (h4, .inl (cy 0, 3, .inl (kc 0)))]) (hl : lv_has ls 8 [(0, .ref b), (1, .ref h0), (2, .ref h3), (3, .ref h5), (4, .int 0)]) : W p l e (zR 1000 600002 7302232) s m #[Value.ref b] below meth c H locs 476 284354 (lw_Z below #[Value.ref b] s) (F0 m 835 ls []) := by
  obtain ⟨hl0, hx, hb, hr, hml, hown, hts, hX, hbl, hlk, hK, hE, q1, v1, q2, v2, hS⟩ := C
  have hA : ∀ q : Nat, s.heap.size ≤ q → (fun q => s.heap.size ≤ q) q := fun _ h => h
  have hbA : ¬ (fun q => s.heap.size ≤ q) b := Nat.not_le.mpr hbl
  refine lv_aload_n (pc := 835) hx hb dL_law_835 rfl (lv_at hl 1 rfl) ?_
  refine lv_aload_n (pc := 836) hx hb dL_law_836 rfl (lv_at hl 0 rfl) ?_
  refine lv_iload (pc := 837) hx hb dL_law_837 (lv_at hl 4 rfl) ?_
  refine lv_iconst (pc := 839) (v := 1) hx hb dL_law_839 (by decide) ?_
  refine z_iadd (pc := 840) (v := 1) hx hb dL_law_840 (by decide) ?_
  refine z_sld (pc := 841) (v := (nI j)) hx hb hX hbl hbA hT 1 rfl (by decide) hs1 dL_law_841 ?_
  refine lv_aload_n (pc := 842) hx hb dL_law_842 rfl (lv_at hl 0 rfl) ?_
  refine lv_iload (pc := 843) hx hb dL_law_843 (lv_at hl 4 rfl) ?_
  refine lv_iconst (pc := 845) (v := 2) hx hb dL_law_845 (by decide) ?_
  refine z_iadd (pc := 846) (v := 2) hx hb dL_law_846 (by decide) ?_
  refine z_sld (pc := 847) (v := (xs 2)) hx hb hX hbl hbA hT 2 rfl (by decide) rfl dL_law_847 ?_
  refine lv_aload_n (pc := 848) hx hb dL_law_848 rfl (lv_at hl 3 rfl) ?_
  refine z_eHI (pc := 849) zE_ok hE hx hb hml hown hts hK hA hT lkH_RL_132 ((k855_L_word l G cy hl0 h0 h1 h2 h5 h6 h7 h8 h9 h10 h11 h12 h13 h14 h15 (xs 2) j (by omega) (by omega) hb1 hb2).e) [0, 1, 2] [3, 4] rfl rfl rfl rfl rfl (by decide) rfl hl.1 rfl (Nat.le_of_ble_eq_true rfl) dL_law_849 ⟨Nat.le_of_ble_eq_true rfl, Nat.le_of_ble_eq_true rfl⟩ (fun _ => [(h3, .inr (12, [.int 0, .ref h4, .int 0, .int 0, .int 0, .int (-1), .int 0, .int 0, .ref h16, .ref h17, .ref h18, .ref h19, .int 0, .ref h20, .ref h21, .int 0, .ref h22, .ref h23, .ref h24, .ref h25, .ref h26, .int 0, .ref h27, .ref h28, .ref h29, .int 0, .ref h30, .ref h31, .ref h32, .int 0, .int 0, .ref h33, .ref h34, .ref h35, .int 0, .long 0, .long 0, .ref h36, .ref h37, .ref h38, .ref h39, .ref h40, .ref h41, .ref h42, .ref h43, .ref h44, .ref h45, .int 0, .int 0, .ref h46, .ref h47, .ref h48, .ref h49, .ref h50, .ref h51, .ref h52, .ref h53, .ref h54, .int 0, .int 0, .int 0, .int 0, .long 0, .ref h55, .ref h56, .ref h57, .int 0, .int 0, .long 0])), (h4, .inl (cy 0, 3, .inl (kc 0)))]) (fun _ => rfl) (fun qs1 H locs hT => ?_)
  refine lv_istore (pc := 852) (lv' := [(5, .int 2), (0, .ref b), (1, .ref h0), (2, .ref h3), (3, .ref h5), (4, .int 0)]) hx hb dL_law_852 hl (by decide) rfl (fun ls hl => ?_)
  refine lv_aload_n (pc := 854) hx hb dL_law_854 rfl (lv_at hl 3 rfl) ?_
  refine lv_aload_n (pc := 855) hx hb dL_law_855 rfl (lv_at hl 1 rfl) ?_
  refine lv_iload (pc := 856) hx hb dL_law_856 (lv_at hl 5 rfl) ?_
  refine lv_iconst (pc := 858) (v := 1) hx hb dL_law_858 (by decide) ?_
  refine z_iadd (pc := 859) (v := 1) hx hb dL_law_859 (by decide) ?_
  refine z_sld (pc := 860) (v := (nI j)) hx hb hX hbl hbA hT 1 rfl (by decide) hs1 dL_law_860 ?_
  refine lv_aload_n (pc := 861) hx hb dL_law_861 rfl (lv_at hl 1 rfl) ?_
  refine lv_iload (pc := 862) hx hb dL_law_862 (lv_at hl 5 rfl) ?_
  refine lv_iconst (pc := 864) (v := 2) hx hb dL_law_864 (by decide) ?_
  refine z_iadd (pc := 865) (v := 2) hx hb dL_law_865 (by decide) ?_
  refine z_sld (pc := 866) (v := (xs 2)) hx hb hX hbl hbA hT 2 rfl (by decide) rfl dL_law_866 ?_
  refine z_cVI (pc := 867) hx hb hml hown hts hK hA hT lkV_RL_134 (k702_X12_word l G cy h3 h4 h16 h17 h18 h19 h20 h21 h22 h23 h24 h25 h26 h27 h28 h29 h30 h31 h32 h33 h34 h35 h36 h37 h38 h39 h40 h41 h42 h43 h44 h45 h46 h47 h48 h49 h50 h51 h52 h53 h54 h55 h56 h57 (xs 2) j (by omega) (by omega) hb1 hb2) [0, 1] [] rfl rfl rfl rfl rfl 0 rfl rfl (by decide) rfl hl.1 rfl (Nat.le_of_ble_eq_true rfl) dL_law_867 ⟨Nat.le_of_ble_eq_true rfl, Nat.le_of_ble_eq_true rfl⟩ (fun _ => [(h3, .inr (12, [.int 2, .ref h4, .int 0, .int 0, .int 0, .int (-1), .int 0, .int 0, .ref h16, .ref h17, .ref h18, .ref h19, .int 0, .ref h20, .ref h21, .int 0, .ref h22, .ref h23, .ref h24, .ref h25, .ref h26, .int 0, .ref h27, .ref h28, .ref h29, .int 0, .ref h30, .ref h31, .ref h32, .int 0, .int 0, .ref h33, .ref h34, .ref h35, .int 0, .long 0, .long 0, .ref h36, .ref h37, .ref h38, .ref h39, .ref h40, .ref h41, .ref h42, .ref h43, .ref h44, .ref h45, .int 0, .int 0, .ref h46, .ref h47, .ref h48, .ref h49, .ref h50, .ref h51, .ref h52, .ref h53, .ref h54, .int 0, .int 0, .int 0, .int 0, .long 0, .ref h55, .ref h56, .ref h57, .int 0, .int 0, .long 0]))]) (fun _ => rfl) (fun qs2 H locs hT => ?_)
  refine lv_istore (pc := 870) (lv' := [(6, .int 0), (5, .int 2), (0, .ref b), (1, .ref h0), (2, .ref h3), (3, .ref h5), (4, .int 0)]) hx hb dL_law_870 hl (by decide) rfl (fun ls hl => ?_)
  refine lv_aload_n (pc := 872) hx hb dL_law_872 rfl (lv_at hl 4 rfl) ?_
  refine z_cVI (pc := 873) hx hb hml hown hts hK hA hT lkV_RL_96 (k1052_X12_thrown l G cy h3 h4 h16 h17 h18 h19 h20 h21 h22 h23 h24 h25 h26 h27 h28 h29 h30 h31 h32 h33 h34 h35 h36 h37 h38 h39 h40 h41 h42 h43 h44 h45 h46 h47 h48 h49 h50 h51 h52 h53 h54 h55 h56 h57) [0] [] rfl rfl rfl rfl rfl 0 rfl rfl (by decide) rfl hl.1 rfl (Nat.le_of_ble_eq_true rfl) dL_law_873 ⟨Nat.le_of_ble_eq_true rfl, Nat.le_of_ble_eq_true rfl⟩ (fun _ => [(h3, .inr (12, [.int 2, .ref h4, .int 0, .int 0, .int 0, .int (-1), .int 0, .int 0, .ref h16, .ref h17, .ref h18, .ref h19, .int 0, .ref h20, .ref h21, .int 0, .ref h22, .ref h23, .ref h24, .ref h25, .ref h26, .int 0, .ref h27, .ref h28, .ref h29, .int 0, .ref h30, .ref h31, .ref h32, .int 0, .int 0, .ref h33, .ref h34, .ref h35, .int 0, .long 0, .long 0, .ref h36, .ref h37, .ref h38, .ref h39, .ref h40, .ref h41, .ref h42, .ref h43, .ref h44, .ref h45, .int 0, .int 0, .ref h46, .ref h47, .ref h48, .ref h49, .ref h50, .ref h51, .ref h52, .ref h53, .ref h54, .int 0, .int 0, .int 0, .int 0, .long 0, .ref h55, .ref h56, .ref h57, .int 0, .int 0, .long 0]))]) (fun _ => rfl) (fun qs3 H locs hT => ?_)
  refine lv_iload (pc := 876) hx hb dL_law_876 (lv_at hl 1 rfl) ?_
  refine zb_icmp_eq_t (pc := 878) (tgt := 883) hx hb dL_law_878 (by decide) (by decide) ?_
  refine lv_iload (pc := 883) hx hb dL_law_883 (lv_at hl 1 rfl) ?_
  refine zb_if_ne_t (pc := 885) (tgt := 900) hx hb dL_law_885 (by decide) (by decide) ?_
  refine lv_goto (pc := 900) (tgt := 1719) hx hb dL_law_900 (by decide) ?_
  exact q_end hx hb hr hlk hX hbl hT (lv_sub hl [2, 6] rfl) (Nat.le_of_ble_eq_true rfl) (Nat.le_of_ble_eq_true rfl)
set_option maxHeartbeats 4000000 in
set_option maxRecDepth 100000 in
theorem q_couple_0_neg {p : Program} {l : Launch} {e : Env} {s : State} {m : MethodId} {below : List Frame} {meth : Method} {c : Code} {H : Heap} {locs : List Loc} {ls : Array Slot} {G : va_G} {cy : Nat → ClassId} {b : Nat} {xs : Nat → Int32} (C : zC l G cy p s m meth c b 6 xs) (h0 h1 h2 h3 h4 h5 h6 h7 h8 h9 h10 h11 h12 h13 h14 h15 h16 h17 h18 h19 h20 h21 h22 h23 h24 h25 h26 h27 h28 h29 h30 h31 h32 h33 h34 h35 h36 h37 h38 h39 h40 h41 h42 h43 h44 h45 h46 h47 h48 h49 h50 h51 h52 h53 h54 h55 h56 : Nat) (hneg : ((xs 1) : Int32) < 0) (hT : zT G (fun q => s.heap.size ≤ q) s.heap H locs [(h0, .inr (11, [.ref h5, .ref h6, .ref h7, .ref h8, .ref h9, .ref h10, .ref h11, .ref h12, .ref h13, .ref h14, .ref h1, .int (-1), .int (-1), .int (-1), .int (-1)])), (h1, .inl (cy 0, 3, .inl (kc 0))), (h2, .inr (12, [.int 0, .ref h3, .int 0, .int 0, .int 0, .int (-1), .int 0, .int 0, .ref h15, .ref h16, .ref h17, .ref h18, .int 0, .ref h19, .ref h20, .int 0, .ref h21, .ref h22, .ref h23, .ref h24, .ref h25, .int 0, .ref h26, .ref h27, .ref h28, .int 0, .ref h29, .ref h30, .ref h31, .int 0, .int 0, .ref h32, .ref h33, .ref h34, .int 0, .long 0, .long 0, .ref h35, .ref h36, .ref h37, .ref h38, .ref h39, .ref h40, .ref h41, .ref h42, .ref h43, .ref h44, .int 0, .int 0, .ref h45, .ref h46, .ref h47, .ref h48, .ref h49, .ref h50, .ref h51, .ref h52, .ref h53, .int 0, .int 0, .int 0, .int 0, .long 0, .ref h54, .ref h55, .ref h56, .int 0, .int 0, .long 0])), (h3, .inl (cy 0, 3, .inl (kc 0)))]) (hl : lv_has ls 8 [(0, .ref b), (1, .ref h0), (2, .ref h2), (3, .ref h4), (4, .int 0)]) : W p l e (zR 1000 600002 7302232) s m #[Value.ref b] below meth c H locs 476 284354 (lw_Z below #[Value.ref b] s) (F0 m 903 ls []) := by
  obtain ⟨hl0, hx, hb, hr, hml, hown, hts, hX, hbl, hlk, hK, hE, q1, v1, q2, v2, hS⟩ := C
  have hA : ∀ q : Nat, s.heap.size ≤ q → (fun q => s.heap.size ≤ q) q := fun _ h => h
  have hbA : ¬ (fun q => s.heap.size ≤ q) b := Nat.not_le.mpr hbl
  refine lv_aload_n (pc := 903) hx hb dL_law_903 rfl (lv_at hl 1 rfl) ?_
  refine lv_aload_n (pc := 904) hx hb dL_law_904 rfl (lv_at hl 0 rfl) ?_
  refine lv_iload (pc := 905) hx hb dL_law_905 (lv_at hl 4 rfl) ?_
  refine lv_iconst (pc := 907) (v := 1) hx hb dL_law_907 (by decide) ?_
  refine z_iadd (pc := 908) (v := 1) hx hb dL_law_908 (by decide) ?_
  refine z_sld (pc := 909) (v := (xs 1)) hx hb hX hbl hbA hT 1 rfl (by decide) rfl dL_law_909 ?_
  refine lv_aload_n (pc := 910) hx hb dL_law_910 rfl (lv_at hl 0 rfl) ?_
  refine lv_iload (pc := 911) hx hb dL_law_911 (lv_at hl 4 rfl) ?_
  refine lv_iconst (pc := 913) (v := 2) hx hb dL_law_913 (by decide) ?_
  refine z_iadd (pc := 914) (v := 2) hx hb dL_law_914 (by decide) ?_
  refine z_sld (pc := 915) (v := (xs 2)) hx hb hX hbl hbA hT 2 rfl (by decide) rfl dL_law_915 ?_
  refine lv_aload_n (pc := 916) hx hb dL_law_916 rfl (lv_at hl 3 rfl) ?_
  refine z_eHI (pc := 917) zE_ok hE hx hb hml hown hts hK hA hT lkH_RL_135 ((k856_L_couple l G cy hl0 h0 h1 h4 h5 h6 h7 h8 h9 h10 h11 h12 h13 h14 (xs 1) (xs 2) hneg).e) [0, 1] [2, 3] rfl rfl rfl rfl rfl (by decide) rfl hl.1 rfl (Nat.le_of_ble_eq_true rfl) dL_law_917 ⟨Nat.le_of_ble_eq_true rfl, Nat.le_of_ble_eq_true rfl⟩ (fun _ => [(h2, .inr (12, [.int 0, .ref h3, .int 0, .int 0, .int 0, .int (-1), .int 0, .int 0, .ref h15, .ref h16, .ref h17, .ref h18, .int 0, .ref h19, .ref h20, .int 0, .ref h21, .ref h22, .ref h23, .ref h24, .ref h25, .int 0, .ref h26, .ref h27, .ref h28, .int 0, .ref h29, .ref h30, .ref h31, .int 0, .int 0, .ref h32, .ref h33, .ref h34, .int 0, .long 0, .long 0, .ref h35, .ref h36, .ref h37, .ref h38, .ref h39, .ref h40, .ref h41, .ref h42, .ref h43, .ref h44, .int 0, .int 0, .ref h45, .ref h46, .ref h47, .ref h48, .ref h49, .ref h50, .ref h51, .ref h52, .ref h53, .int 0, .int 0, .int 0, .int 0, .long 0, .ref h54, .ref h55, .ref h56, .int 0, .int 0, .long 0])), (h3, .inl (cy 0, 3, .inl (kc 0)))]) (fun _ => rfl) (fun qs1 H locs hT => ?_)
  refine lv_istore (pc := 920) (lv' := [(5, .int 1), (0, .ref b), (1, .ref h0), (2, .ref h2), (3, .ref h4), (4, .int 0)]) hx hb dL_law_920 hl (by decide) rfl (fun ls hl => ?_)
  refine lv_aload_n (pc := 922) hx hb dL_law_922 rfl (lv_at hl 3 rfl) ?_
  refine lv_aload_n (pc := 923) hx hb dL_law_923 rfl (lv_at hl 1 rfl) ?_
  refine lv_iload (pc := 924) hx hb dL_law_924 (lv_at hl 5 rfl) ?_
  refine lv_iconst (pc := 926) (v := 1) hx hb dL_law_926 (by decide) ?_
  refine z_iadd (pc := 927) (v := 1) hx hb dL_law_927 (by decide) ?_
  refine z_sld (pc := 928) (v := (xs 1)) hx hb hX hbl hbA hT 1 rfl (by decide) rfl dL_law_928 ?_
  refine lv_aload_n (pc := 929) hx hb dL_law_929 rfl (lv_at hl 1 rfl) ?_
  refine lv_iload (pc := 930) hx hb dL_law_930 (lv_at hl 5 rfl) ?_
  refine lv_iconst (pc := 932) (v := 2) hx hb dL_law_932 (by decide) ?_
  refine z_iadd (pc := 933) (v := 2) hx hb dL_law_933 (by decide) ?_
  refine z_sld (pc := 934) (v := (xs 2)) hx hb hX hbl hbA hT 2 rfl (by decide) rfl dL_law_934 ?_
  refine z_cVI (pc := 935) hx hb hml hown hts hK hA hT lkV_RL_137 (k703_X12_couple l G cy h2 h3 h15 h16 h17 h18 h19 h20 h21 h22 h23 h24 h25 h26 h27 h28 h29 h30 h31 h32 h33 h34 h35 h36 h37 h38 h39 h40 h41 h42 h43 h44 h45 h46 h47 h48 h49 h50 h51 h52 h53 h54 h55 h56 (xs 1) (xs 2) hneg) [0, 1] [] rfl rfl rfl rfl rfl 0 rfl rfl (by decide) rfl hl.1 rfl (Nat.le_of_ble_eq_true rfl) dL_law_935 ⟨Nat.le_of_ble_eq_true rfl, Nat.le_of_ble_eq_true rfl⟩ (fun _ => [(h2, .inr (12, [.int 1, .ref h3, .int 0, .int 0, .int 0, .int (-1), .int 0, .int 0, .ref h15, .ref h16, .ref h17, .ref h18, .int 0, .ref h19, .ref h20, .int 0, .ref h21, .ref h22, .ref h23, .ref h24, .ref h25, .int 0, .ref h26, .ref h27, .ref h28, .int 0, .ref h29, .ref h30, .ref h31, .int 0, .int 0, .ref h32, .ref h33, .ref h34, .int 0, .long 0, .long 0, .ref h35, .ref h36, .ref h37, .ref h38, .ref h39, .ref h40, .ref h41, .ref h42, .ref h43, .ref h44, .int 0, .int 0, .ref h45, .ref h46, .ref h47, .ref h48, .ref h49, .ref h50, .ref h51, .ref h52, .ref h53, .int 0, .int 0, .int 0, .int 0, .long 0, .ref h54, .ref h55, .ref h56, .int 0, .int 0, .long 0]))]) (fun _ => rfl) (fun qs2 H locs hT => ?_)
  refine lv_istore (pc := 938) (lv' := [(6, .int 0), (5, .int 1), (0, .ref b), (1, .ref h0), (2, .ref h2), (3, .ref h4), (4, .int 0)]) hx hb dL_law_938 hl (by decide) rfl (fun ls hl => ?_)
  refine lv_aload_n (pc := 940) hx hb dL_law_940 rfl (lv_at hl 4 rfl) ?_
  refine z_cVI (pc := 941) hx hb hml hown hts hK hA hT lkV_RL_96 (k1051_X12_thrown l G cy h2 h3 h15 h16 h17 h18 h19 h20 h21 h22 h23 h24 h25 h26 h27 h28 h29 h30 h31 h32 h33 h34 h35 h36 h37 h38 h39 h40 h41 h42 h43 h44 h45 h46 h47 h48 h49 h50 h51 h52 h53 h54 h55 h56) [0] [] rfl rfl rfl rfl rfl 0 rfl rfl (by decide) rfl hl.1 rfl (Nat.le_of_ble_eq_true rfl) dL_law_941 ⟨Nat.le_of_ble_eq_true rfl, Nat.le_of_ble_eq_true rfl⟩ (fun _ => [(h2, .inr (12, [.int 1, .ref h3, .int 0, .int 0, .int 0, .int (-1), .int 0, .int 0, .ref h15, .ref h16, .ref h17, .ref h18, .int 0, .ref h19, .ref h20, .int 0, .ref h21, .ref h22, .ref h23, .ref h24, .ref h25, .int 0, .ref h26, .ref h27, .ref h28, .int 0, .ref h29, .ref h30, .ref h31, .int 0, .int 0, .ref h32, .ref h33, .ref h34, .int 0, .long 0, .long 0, .ref h35, .ref h36, .ref h37, .ref h38, .ref h39, .ref h40, .ref h41, .ref h42, .ref h43, .ref h44, .int 0, .int 0, .ref h45, .ref h46, .ref h47, .ref h48, .ref h49, .ref h50, .ref h51, .ref h52, .ref h53, .int 0, .int 0, .int 0, .int 0, .long 0, .ref h54, .ref h55, .ref h56, .int 0, .int 0, .long 0]))]) (fun _ => rfl) (fun qs3 H locs hT => ?_)
  refine lv_iload (pc := 944) hx hb dL_law_944 (lv_at hl 1 rfl) ?_
  refine zb_icmp_eq_t (pc := 946) (tgt := 951) hx hb dL_law_946 (by decide) (by decide) ?_
  refine lv_iload (pc := 951) hx hb dL_law_951 (lv_at hl 1 rfl) ?_
  refine zb_if_ne_t (pc := 953) (tgt := 968) hx hb dL_law_953 (by decide) (by decide) ?_
  refine lv_goto (pc := 968) (tgt := 1719) hx hb dL_law_968 (by decide) ?_
  exact q_end hx hb hr hlk hX hbl hT (lv_sub hl [2, 6] rfl) (Nat.le_of_ble_eq_true rfl) (Nat.le_of_ble_eq_true rfl)
set_option maxHeartbeats 4000000 in
set_option maxRecDepth 100000 in
theorem q_couple_0_big {p : Program} {l : Launch} {e : Env} {s : State} {m : MethodId} {below : List Frame} {meth : Method} {c : Code} {H : Heap} {locs : List Loc} {ls : Array Slot} {G : va_G} {cy : Nat → ClassId} {b : Nat} {xs : Nat → Int32} (C : zC l G cy p s m meth c b 6 xs) (h0 h1 h2 h3 h4 h5 h6 h7 h8 h9 h10 h11 h12 h13 h14 h15 h16 h17 h18 h19 h20 h21 h22 h23 h24 h25 h26 h27 h28 h29 h30 h31 h32 h33 h34 h35 h36 h37 h38 h39 h40 h41 h42 h43 h44 h45 h46 h47 h48 h49 h50 h51 h52 h53 h54 h55 h56 : Nat) (hb1 : ¬ ((xs 1) : Int32) < 0) (hb2 : ¬ ((xs 1) : Int32) < 6) (hb3 : (5 : Int32) < (xs 1)) (hT : zT G (fun q => s.heap.size ≤ q) s.heap H locs [(h0, .inr (11, [.ref h5, .ref h6, .ref h7, .ref h8, .ref h9, .ref h10, .ref h11, .ref h12, .ref h13, .ref h14, .ref h1, .int (-1), .int (-1), .int (-1), .int (-1)])), (h1, .inl (cy 0, 3, .inl (kc 0))), (h2, .inr (12, [.int 0, .ref h3, .int 0, .int 0, .int 0, .int (-1), .int 0, .int 0, .ref h15, .ref h16, .ref h17, .ref h18, .int 0, .ref h19, .ref h20, .int 0, .ref h21, .ref h22, .ref h23, .ref h24, .ref h25, .int 0, .ref h26, .ref h27, .ref h28, .int 0, .ref h29, .ref h30, .ref h31, .int 0, .int 0, .ref h32, .ref h33, .ref h34, .int 0, .long 0, .long 0, .ref h35, .ref h36, .ref h37, .ref h38, .ref h39, .ref h40, .ref h41, .ref h42, .ref h43, .ref h44, .int 0, .int 0, .ref h45, .ref h46, .ref h47, .ref h48, .ref h49, .ref h50, .ref h51, .ref h52, .ref h53, .int 0, .int 0, .int 0, .int 0, .long 0, .ref h54, .ref h55, .ref h56, .int 0, .int 0, .long 0])), (h3, .inl (cy 0, 3, .inl (kc 0)))]) (hl : lv_has ls 8 [(0, .ref b), (1, .ref h0), (2, .ref h2), (3, .ref h4), (4, .int 0)]) : W p l e (zR 1000 600002 7302232) s m #[Value.ref b] below meth c H locs 476 284354 (lw_Z below #[Value.ref b] s) (F0 m 903 ls []) := by
  obtain ⟨hl0, hx, hb, hr, hml, hown, hts, hX, hbl, hlk, hK, hE, q1, v1, q2, v2, hS⟩ := C
  have hA : ∀ q : Nat, s.heap.size ≤ q → (fun q => s.heap.size ≤ q) q := fun _ h => h
  have hbA : ¬ (fun q => s.heap.size ≤ q) b := Nat.not_le.mpr hbl
  refine lv_aload_n (pc := 903) hx hb dL_law_903 rfl (lv_at hl 1 rfl) ?_
  refine lv_aload_n (pc := 904) hx hb dL_law_904 rfl (lv_at hl 0 rfl) ?_
  refine lv_iload (pc := 905) hx hb dL_law_905 (lv_at hl 4 rfl) ?_
  refine lv_iconst (pc := 907) (v := 1) hx hb dL_law_907 (by decide) ?_
  refine z_iadd (pc := 908) (v := 1) hx hb dL_law_908 (by decide) ?_
  refine z_sld (pc := 909) (v := (xs 1)) hx hb hX hbl hbA hT 1 rfl (by decide) rfl dL_law_909 ?_
  refine lv_aload_n (pc := 910) hx hb dL_law_910 rfl (lv_at hl 0 rfl) ?_
  refine lv_iload (pc := 911) hx hb dL_law_911 (lv_at hl 4 rfl) ?_
  refine lv_iconst (pc := 913) (v := 2) hx hb dL_law_913 (by decide) ?_
  refine z_iadd (pc := 914) (v := 2) hx hb dL_law_914 (by decide) ?_
  refine z_sld (pc := 915) (v := (xs 2)) hx hb hX hbl hbA hT 2 rfl (by decide) rfl dL_law_915 ?_
  refine lv_aload_n (pc := 916) hx hb dL_law_916 rfl (lv_at hl 3 rfl) ?_
  refine z_eHI (pc := 917) zE_ok hE hx hb hml hown hts hK hA hT lkH_RL_135 ((k857_L_couple l G cy hl0 h0 h1 h4 h5 h6 h7 h8 h9 h10 h11 h12 h13 h14 (xs 1) (xs 2) hb1 hb2).e) [0, 1] [2, 3] rfl rfl rfl rfl rfl (by decide) rfl hl.1 rfl (Nat.le_of_ble_eq_true rfl) dL_law_917 ⟨Nat.le_of_ble_eq_true rfl, Nat.le_of_ble_eq_true rfl⟩ (fun _ => [(h2, .inr (12, [.int 0, .ref h3, .int 0, .int 0, .int 0, .int (-1), .int 0, .int 0, .ref h15, .ref h16, .ref h17, .ref h18, .int 0, .ref h19, .ref h20, .int 0, .ref h21, .ref h22, .ref h23, .ref h24, .ref h25, .int 0, .ref h26, .ref h27, .ref h28, .int 0, .ref h29, .ref h30, .ref h31, .int 0, .int 0, .ref h32, .ref h33, .ref h34, .int 0, .long 0, .long 0, .ref h35, .ref h36, .ref h37, .ref h38, .ref h39, .ref h40, .ref h41, .ref h42, .ref h43, .ref h44, .int 0, .int 0, .ref h45, .ref h46, .ref h47, .ref h48, .ref h49, .ref h50, .ref h51, .ref h52, .ref h53, .int 0, .int 0, .int 0, .int 0, .long 0, .ref h54, .ref h55, .ref h56, .int 0, .int 0, .long 0])), (h3, .inl (cy 0, 3, .inl (kc 0)))]) (fun _ => rfl) (fun qs1 H locs hT => ?_)
  refine lv_istore (pc := 920) (lv' := [(5, .int 1), (0, .ref b), (1, .ref h0), (2, .ref h2), (3, .ref h4), (4, .int 0)]) hx hb dL_law_920 hl (by decide) rfl (fun ls hl => ?_)
  refine lv_aload_n (pc := 922) hx hb dL_law_922 rfl (lv_at hl 3 rfl) ?_
  refine lv_aload_n (pc := 923) hx hb dL_law_923 rfl (lv_at hl 1 rfl) ?_
  refine lv_iload (pc := 924) hx hb dL_law_924 (lv_at hl 5 rfl) ?_
  refine lv_iconst (pc := 926) (v := 1) hx hb dL_law_926 (by decide) ?_
  refine z_iadd (pc := 927) (v := 1) hx hb dL_law_927 (by decide) ?_
  refine z_sld (pc := 928) (v := (xs 1)) hx hb hX hbl hbA hT 1 rfl (by decide) rfl dL_law_928 ?_
  refine lv_aload_n (pc := 929) hx hb dL_law_929 rfl (lv_at hl 1 rfl) ?_
  refine lv_iload (pc := 930) hx hb dL_law_930 (lv_at hl 5 rfl) ?_
  refine lv_iconst (pc := 932) (v := 2) hx hb dL_law_932 (by decide) ?_
  refine z_iadd (pc := 933) (v := 2) hx hb dL_law_933 (by decide) ?_
  refine z_sld (pc := 934) (v := (xs 2)) hx hb hX hbl hbA hT 2 rfl (by decide) rfl dL_law_934 ?_
  refine z_cVI (pc := 935) hx hb hml hown hts hK hA hT lkV_RL_137 (k704_X12_couple l G cy h2 h3 h15 h16 h17 h18 h19 h20 h21 h22 h23 h24 h25 h26 h27 h28 h29 h30 h31 h32 h33 h34 h35 h36 h37 h38 h39 h40 h41 h42 h43 h44 h45 h46 h47 h48 h49 h50 h51 h52 h53 h54 h55 h56 (xs 1) (xs 2) hb1 hb3) [0, 1] [] rfl rfl rfl rfl rfl 0 rfl rfl (by decide) rfl hl.1 rfl (Nat.le_of_ble_eq_true rfl) dL_law_935 ⟨Nat.le_of_ble_eq_true rfl, Nat.le_of_ble_eq_true rfl⟩ (fun _ => [(h2, .inr (12, [.int 1, .ref h3, .int 0, .int 0, .int 0, .int (-1), .int 0, .int 0, .ref h15, .ref h16, .ref h17, .ref h18, .int 0, .ref h19, .ref h20, .int 0, .ref h21, .ref h22, .ref h23, .ref h24, .ref h25, .int 0, .ref h26, .ref h27, .ref h28, .int 0, .ref h29, .ref h30, .ref h31, .int 0, .int 0, .ref h32, .ref h33, .ref h34, .int 0, .long 0, .long 0, .ref h35, .ref h36, .ref h37, .ref h38, .ref h39, .ref h40, .ref h41, .ref h42, .ref h43, .ref h44, .int 0, .int 0, .ref h45, .ref h46, .ref h47, .ref h48, .ref h49, .ref h50, .ref h51, .ref h52, .ref h53, .int 0, .int 0, .int 0, .int 0, .long 0, .ref h54, .ref h55, .ref h56, .int 0, .int 0, .long 0]))]) (fun _ => rfl) (fun qs2 H locs hT => ?_)
  refine lv_istore (pc := 938) (lv' := [(6, .int 0), (5, .int 1), (0, .ref b), (1, .ref h0), (2, .ref h2), (3, .ref h4), (4, .int 0)]) hx hb dL_law_938 hl (by decide) rfl (fun ls hl => ?_)
  refine lv_aload_n (pc := 940) hx hb dL_law_940 rfl (lv_at hl 4 rfl) ?_
  refine z_cVI (pc := 941) hx hb hml hown hts hK hA hT lkV_RL_96 (k1051_X12_thrown l G cy h2 h3 h15 h16 h17 h18 h19 h20 h21 h22 h23 h24 h25 h26 h27 h28 h29 h30 h31 h32 h33 h34 h35 h36 h37 h38 h39 h40 h41 h42 h43 h44 h45 h46 h47 h48 h49 h50 h51 h52 h53 h54 h55 h56) [0] [] rfl rfl rfl rfl rfl 0 rfl rfl (by decide) rfl hl.1 rfl (Nat.le_of_ble_eq_true rfl) dL_law_941 ⟨Nat.le_of_ble_eq_true rfl, Nat.le_of_ble_eq_true rfl⟩ (fun _ => [(h2, .inr (12, [.int 1, .ref h3, .int 0, .int 0, .int 0, .int (-1), .int 0, .int 0, .ref h15, .ref h16, .ref h17, .ref h18, .int 0, .ref h19, .ref h20, .int 0, .ref h21, .ref h22, .ref h23, .ref h24, .ref h25, .int 0, .ref h26, .ref h27, .ref h28, .int 0, .ref h29, .ref h30, .ref h31, .int 0, .int 0, .ref h32, .ref h33, .ref h34, .int 0, .long 0, .long 0, .ref h35, .ref h36, .ref h37, .ref h38, .ref h39, .ref h40, .ref h41, .ref h42, .ref h43, .ref h44, .int 0, .int 0, .ref h45, .ref h46, .ref h47, .ref h48, .ref h49, .ref h50, .ref h51, .ref h52, .ref h53, .int 0, .int 0, .int 0, .int 0, .long 0, .ref h54, .ref h55, .ref h56, .int 0, .int 0, .long 0]))]) (fun _ => rfl) (fun qs3 H locs hT => ?_)
  refine lv_iload (pc := 944) hx hb dL_law_944 (lv_at hl 1 rfl) ?_
  refine zb_icmp_eq_t (pc := 946) (tgt := 951) hx hb dL_law_946 (by decide) (by decide) ?_
  refine lv_iload (pc := 951) hx hb dL_law_951 (lv_at hl 1 rfl) ?_
  refine zb_if_ne_t (pc := 953) (tgt := 968) hx hb dL_law_953 (by decide) (by decide) ?_
  refine lv_goto (pc := 968) (tgt := 1719) hx hb dL_law_968 (by decide) ?_
  exact q_end hx hb hr hlk hX hbl hT (lv_sub hl [2, 6] rfl) (Nat.le_of_ble_eq_true rfl) (Nat.le_of_ble_eq_true rfl)
set_option maxHeartbeats 4000000 in
set_option maxRecDepth 100000 in
theorem q_couple_1_neg {p : Program} {l : Launch} {e : Env} {s : State} {m : MethodId} {below : List Frame} {meth : Method} {c : Code} {H : Heap} {locs : List Loc} {ls : Array Slot} {G : va_G} {cy : Nat → ClassId} {b : Nat} {xs : Nat → Int32} (C : zC l G cy p s m meth c b 6 xs) (h0 h1 h2 h3 h4 h5 h6 h7 h8 h9 h10 h11 h12 h13 h14 h15 h16 h17 h18 h19 h20 h21 h22 h23 h24 h25 h26 h27 h28 h29 h30 h31 h32 h33 h34 h35 h36 h37 h38 h39 h40 h41 h42 h43 h44 h45 h46 h47 h48 h49 h50 h51 h52 h53 h54 h55 h56 h57 : Nat) (j : Nat) (hloj : 0 ≤ j) (hhij : j < 6) (hs1 : xs 1 = (nI j)) (hneg : ((xs 2) : Int32) < 0) (hT : zT G (fun q => s.heap.size ≤ q) s.heap H locs [(h0, .inr (11, [.ref h6, .ref h7, .ref h1, .ref h8, .ref h9, .ref h10, .ref h11, .ref h12, .ref h13, .ref h14, .ref h2, .int (-1), .int (-1), .int (-1), .int (-1)])), (h1, .inr (9, [.int 0, .ref h15, .int 0, .int 0, .int 0, .int 0])), (h2, .inl (cy 0, 3, .inl (kc 0))), (h3, .inr (12, [.int 0, .ref h4, .int 0, .int 0, .int 0, .int (-1), .int 0, .int 0, .ref h16, .ref h17, .ref h18, .ref h19, .int 0, .ref h20, .ref h21, .int 0, .ref h22, .ref h23, .ref h24, .ref h25, .ref h26, .int 0, .ref h27, .ref h28, .ref h29, .int 0, .ref h30, .ref h31, .ref h32, .int 0, .int 0, .ref h33, .ref h34, .ref h35, .int 0, .long 0, .long 0, .ref h36, .ref h37, .ref h38, .ref h39, .ref h40, .ref h41, .ref h42, .ref h43, .ref h44, .ref h45, .int 0, .int 0, .ref h46, .ref h47, .ref h48, .ref h49, .ref h50, .ref h51, .ref h52, .ref h53, .ref h54, .int 0, .int 0, .int 0, .int 0, .long 0, .ref h55, .ref h56, .ref h57, .int 0, .int 0, .long 0])), (h4, .inl (cy 0, 3, .inl (kc 0)))]) (hl : lv_has ls 8 [(0, .ref b), (1, .ref h0), (2, .ref h3), (3, .ref h5), (4, .int 0)]) : W p l e (zR 1000 600002 7302232) s m #[Value.ref b] below meth c H locs 476 284354 (lw_Z below #[Value.ref b] s) (F0 m 903 ls []) := by
  obtain ⟨hl0, hx, hb, hr, hml, hown, hts, hX, hbl, hlk, hK, hE, q1, v1, q2, v2, hS⟩ := C
  have hA : ∀ q : Nat, s.heap.size ≤ q → (fun q => s.heap.size ≤ q) q := fun _ h => h
  have hbA : ¬ (fun q => s.heap.size ≤ q) b := Nat.not_le.mpr hbl
  refine lv_aload_n (pc := 903) hx hb dL_law_903 rfl (lv_at hl 1 rfl) ?_
  refine lv_aload_n (pc := 904) hx hb dL_law_904 rfl (lv_at hl 0 rfl) ?_
  refine lv_iload (pc := 905) hx hb dL_law_905 (lv_at hl 4 rfl) ?_
  refine lv_iconst (pc := 907) (v := 1) hx hb dL_law_907 (by decide) ?_
  refine z_iadd (pc := 908) (v := 1) hx hb dL_law_908 (by decide) ?_
  refine z_sld (pc := 909) (v := (nI j)) hx hb hX hbl hbA hT 1 rfl (by decide) hs1 dL_law_909 ?_
  refine lv_aload_n (pc := 910) hx hb dL_law_910 rfl (lv_at hl 0 rfl) ?_
  refine lv_iload (pc := 911) hx hb dL_law_911 (lv_at hl 4 rfl) ?_
  refine lv_iconst (pc := 913) (v := 2) hx hb dL_law_913 (by decide) ?_
  refine z_iadd (pc := 914) (v := 2) hx hb dL_law_914 (by decide) ?_
  refine z_sld (pc := 915) (v := (xs 2)) hx hb hX hbl hbA hT 2 rfl (by decide) rfl dL_law_915 ?_
  refine lv_aload_n (pc := 916) hx hb dL_law_916 rfl (lv_at hl 3 rfl) ?_
  refine z_eHI (pc := 917) zE_ok hE hx hb hml hown hts hK hA hT lkH_RL_135 ((k858_L_couple l G cy hl0 h0 h1 h2 h5 h6 h7 h8 h9 h10 h11 h12 h13 h14 h15 (xs 2) j (by omega) (by omega) hneg).e) [0, 1, 2] [3, 4] rfl rfl rfl rfl rfl (by decide) rfl hl.1 rfl (Nat.le_of_ble_eq_true rfl) dL_law_917 ⟨Nat.le_of_ble_eq_true rfl, Nat.le_of_ble_eq_true rfl⟩ (fun _ => [(h3, .inr (12, [.int 0, .ref h4, .int 0, .int 0, .int 0, .int (-1), .int 0, .int 0, .ref h16, .ref h17, .ref h18, .ref h19, .int 0, .ref h20, .ref h21, .int 0, .ref h22, .ref h23, .ref h24, .ref h25, .ref h26, .int 0, .ref h27, .ref h28, .ref h29, .int 0, .ref h30, .ref h31, .ref h32, .int 0, .int 0, .ref h33, .ref h34, .ref h35, .int 0, .long 0, .long 0, .ref h36, .ref h37, .ref h38, .ref h39, .ref h40, .ref h41, .ref h42, .ref h43, .ref h44, .ref h45, .int 0, .int 0, .ref h46, .ref h47, .ref h48, .ref h49, .ref h50, .ref h51, .ref h52, .ref h53, .ref h54, .int 0, .int 0, .int 0, .int 0, .long 0, .ref h55, .ref h56, .ref h57, .int 0, .int 0, .long 0])), (h4, .inl (cy 0, 3, .inl (kc 0)))]) (fun _ => rfl) (fun qs1 H locs hT => ?_)
  refine lv_istore (pc := 920) (lv' := [(5, .int 2), (0, .ref b), (1, .ref h0), (2, .ref h3), (3, .ref h5), (4, .int 0)]) hx hb dL_law_920 hl (by decide) rfl (fun ls hl => ?_)
  refine lv_aload_n (pc := 922) hx hb dL_law_922 rfl (lv_at hl 3 rfl) ?_
  refine lv_aload_n (pc := 923) hx hb dL_law_923 rfl (lv_at hl 1 rfl) ?_
  refine lv_iload (pc := 924) hx hb dL_law_924 (lv_at hl 5 rfl) ?_
  refine lv_iconst (pc := 926) (v := 1) hx hb dL_law_926 (by decide) ?_
  refine z_iadd (pc := 927) (v := 1) hx hb dL_law_927 (by decide) ?_
  refine z_sld (pc := 928) (v := (nI j)) hx hb hX hbl hbA hT 1 rfl (by decide) hs1 dL_law_928 ?_
  refine lv_aload_n (pc := 929) hx hb dL_law_929 rfl (lv_at hl 1 rfl) ?_
  refine lv_iload (pc := 930) hx hb dL_law_930 (lv_at hl 5 rfl) ?_
  refine lv_iconst (pc := 932) (v := 2) hx hb dL_law_932 (by decide) ?_
  refine z_iadd (pc := 933) (v := 2) hx hb dL_law_933 (by decide) ?_
  refine z_sld (pc := 934) (v := (xs 2)) hx hb hX hbl hbA hT 2 rfl (by decide) rfl dL_law_934 ?_
  refine z_cVI (pc := 935) hx hb hml hown hts hK hA hT lkV_RL_137 (k705_X12_couple l G cy h3 h4 h16 h17 h18 h19 h20 h21 h22 h23 h24 h25 h26 h27 h28 h29 h30 h31 h32 h33 h34 h35 h36 h37 h38 h39 h40 h41 h42 h43 h44 h45 h46 h47 h48 h49 h50 h51 h52 h53 h54 h55 h56 h57 (xs 2) j (by omega) (by omega) hneg) [0, 1] [] rfl rfl rfl rfl rfl 0 rfl rfl (by decide) rfl hl.1 rfl (Nat.le_of_ble_eq_true rfl) dL_law_935 ⟨Nat.le_of_ble_eq_true rfl, Nat.le_of_ble_eq_true rfl⟩ (fun _ => [(h3, .inr (12, [.int 2, .ref h4, .int 0, .int 0, .int 0, .int (-1), .int 0, .int 0, .ref h16, .ref h17, .ref h18, .ref h19, .int 0, .ref h20, .ref h21, .int 0, .ref h22, .ref h23, .ref h24, .ref h25, .ref h26, .int 0, .ref h27, .ref h28, .ref h29, .int 0, .ref h30, .ref h31, .ref h32, .int 0, .int 0, .ref h33, .ref h34, .ref h35, .int 0, .long 0, .long 0, .ref h36, .ref h37, .ref h38, .ref h39, .ref h40, .ref h41, .ref h42, .ref h43, .ref h44, .ref h45, .int 0, .int 0, .ref h46, .ref h47, .ref h48, .ref h49, .ref h50, .ref h51, .ref h52, .ref h53, .ref h54, .int 0, .int 0, .int 0, .int 0, .long 0, .ref h55, .ref h56, .ref h57, .int 0, .int 0, .long 0]))]) (fun _ => rfl) (fun qs2 H locs hT => ?_)
  refine lv_istore (pc := 938) (lv' := [(6, .int 0), (5, .int 2), (0, .ref b), (1, .ref h0), (2, .ref h3), (3, .ref h5), (4, .int 0)]) hx hb dL_law_938 hl (by decide) rfl (fun ls hl => ?_)
  refine lv_aload_n (pc := 940) hx hb dL_law_940 rfl (lv_at hl 4 rfl) ?_
  refine z_cVI (pc := 941) hx hb hml hown hts hK hA hT lkV_RL_96 (k1052_X12_thrown l G cy h3 h4 h16 h17 h18 h19 h20 h21 h22 h23 h24 h25 h26 h27 h28 h29 h30 h31 h32 h33 h34 h35 h36 h37 h38 h39 h40 h41 h42 h43 h44 h45 h46 h47 h48 h49 h50 h51 h52 h53 h54 h55 h56 h57) [0] [] rfl rfl rfl rfl rfl 0 rfl rfl (by decide) rfl hl.1 rfl (Nat.le_of_ble_eq_true rfl) dL_law_941 ⟨Nat.le_of_ble_eq_true rfl, Nat.le_of_ble_eq_true rfl⟩ (fun _ => [(h3, .inr (12, [.int 2, .ref h4, .int 0, .int 0, .int 0, .int (-1), .int 0, .int 0, .ref h16, .ref h17, .ref h18, .ref h19, .int 0, .ref h20, .ref h21, .int 0, .ref h22, .ref h23, .ref h24, .ref h25, .ref h26, .int 0, .ref h27, .ref h28, .ref h29, .int 0, .ref h30, .ref h31, .ref h32, .int 0, .int 0, .ref h33, .ref h34, .ref h35, .int 0, .long 0, .long 0, .ref h36, .ref h37, .ref h38, .ref h39, .ref h40, .ref h41, .ref h42, .ref h43, .ref h44, .ref h45, .int 0, .int 0, .ref h46, .ref h47, .ref h48, .ref h49, .ref h50, .ref h51, .ref h52, .ref h53, .ref h54, .int 0, .int 0, .int 0, .int 0, .long 0, .ref h55, .ref h56, .ref h57, .int 0, .int 0, .long 0]))]) (fun _ => rfl) (fun qs3 H locs hT => ?_)
  refine lv_iload (pc := 944) hx hb dL_law_944 (lv_at hl 1 rfl) ?_
  refine zb_icmp_eq_t (pc := 946) (tgt := 951) hx hb dL_law_946 (by decide) (by decide) ?_
  refine lv_iload (pc := 951) hx hb dL_law_951 (lv_at hl 1 rfl) ?_
  refine zb_if_ne_t (pc := 953) (tgt := 968) hx hb dL_law_953 (by decide) (by decide) ?_
  refine lv_goto (pc := 968) (tgt := 1719) hx hb dL_law_968 (by decide) ?_
  exact q_end hx hb hr hlk hX hbl hT (lv_sub hl [2, 6] rfl) (Nat.le_of_ble_eq_true rfl) (Nat.le_of_ble_eq_true rfl)
set_option maxHeartbeats 4000000 in
set_option maxRecDepth 100000 in
theorem q_couple_1_big {p : Program} {l : Launch} {e : Env} {s : State} {m : MethodId} {below : List Frame} {meth : Method} {c : Code} {H : Heap} {locs : List Loc} {ls : Array Slot} {G : va_G} {cy : Nat → ClassId} {b : Nat} {xs : Nat → Int32} (C : zC l G cy p s m meth c b 6 xs) (h0 h1 h2 h3 h4 h5 h6 h7 h8 h9 h10 h11 h12 h13 h14 h15 h16 h17 h18 h19 h20 h21 h22 h23 h24 h25 h26 h27 h28 h29 h30 h31 h32 h33 h34 h35 h36 h37 h38 h39 h40 h41 h42 h43 h44 h45 h46 h47 h48 h49 h50 h51 h52 h53 h54 h55 h56 h57 : Nat) (j : Nat) (hloj : 0 ≤ j) (hhij : j < 6) (hs1 : xs 1 = (nI j)) (hb1 : ¬ ((xs 2) : Int32) < 0) (hb2 : (0 : Int32) < (xs 2)) (hT : zT G (fun q => s.heap.size ≤ q) s.heap H locs [(h0, .inr (11, [.ref h6, .ref h7, .ref h1, .ref h8, .ref h9, .ref h10, .ref h11, .ref h12, .ref h13, .ref h14, .ref h2, .int (-1), .int (-1), .int (-1), .int (-1)])), (h1, .inr (9, [.int 0, .ref h15, .int 0, .int 0, .int 0, .int 0])), (h2, .inl (cy 0, 3, .inl (kc 0))), (h3, .inr (12, [.int 0, .ref h4, .int 0, .int 0, .int 0, .int (-1), .int 0, .int 0, .ref h16, .ref h17, .ref h18, .ref h19, .int 0, .ref h20, .ref h21, .int 0, .ref h22, .ref h23, .ref h24, .ref h25, .ref h26, .int 0, .ref h27, .ref h28, .ref h29, .int 0, .ref h30, .ref h31, .ref h32, .int 0, .int 0, .ref h33, .ref h34, .ref h35, .int 0, .long 0, .long 0, .ref h36, .ref h37, .ref h38, .ref h39, .ref h40, .ref h41, .ref h42, .ref h43, .ref h44, .ref h45, .int 0, .int 0, .ref h46, .ref h47, .ref h48, .ref h49, .ref h50, .ref h51, .ref h52, .ref h53, .ref h54, .int 0, .int 0, .int 0, .int 0, .long 0, .ref h55, .ref h56, .ref h57, .int 0, .int 0, .long 0])), (h4, .inl (cy 0, 3, .inl (kc 0)))]) (hl : lv_has ls 8 [(0, .ref b), (1, .ref h0), (2, .ref h3), (3, .ref h5), (4, .int 0)]) : W p l e (zR 1000 600002 7302232) s m #[Value.ref b] below meth c H locs 476 284354 (lw_Z below #[Value.ref b] s) (F0 m 903 ls []) := by
  obtain ⟨hl0, hx, hb, hr, hml, hown, hts, hX, hbl, hlk, hK, hE, q1, v1, q2, v2, hS⟩ := C
  have hA : ∀ q : Nat, s.heap.size ≤ q → (fun q => s.heap.size ≤ q) q := fun _ h => h
  have hbA : ¬ (fun q => s.heap.size ≤ q) b := Nat.not_le.mpr hbl
  refine lv_aload_n (pc := 903) hx hb dL_law_903 rfl (lv_at hl 1 rfl) ?_
  refine lv_aload_n (pc := 904) hx hb dL_law_904 rfl (lv_at hl 0 rfl) ?_
  refine lv_iload (pc := 905) hx hb dL_law_905 (lv_at hl 4 rfl) ?_
  refine lv_iconst (pc := 907) (v := 1) hx hb dL_law_907 (by decide) ?_
  refine z_iadd (pc := 908) (v := 1) hx hb dL_law_908 (by decide) ?_
  refine z_sld (pc := 909) (v := (nI j)) hx hb hX hbl hbA hT 1 rfl (by decide) hs1 dL_law_909 ?_
  refine lv_aload_n (pc := 910) hx hb dL_law_910 rfl (lv_at hl 0 rfl) ?_
  refine lv_iload (pc := 911) hx hb dL_law_911 (lv_at hl 4 rfl) ?_
  refine lv_iconst (pc := 913) (v := 2) hx hb dL_law_913 (by decide) ?_
  refine z_iadd (pc := 914) (v := 2) hx hb dL_law_914 (by decide) ?_
  refine z_sld (pc := 915) (v := (xs 2)) hx hb hX hbl hbA hT 2 rfl (by decide) rfl dL_law_915 ?_
  refine lv_aload_n (pc := 916) hx hb dL_law_916 rfl (lv_at hl 3 rfl) ?_
  refine z_eHI (pc := 917) zE_ok hE hx hb hml hown hts hK hA hT lkH_RL_135 ((k859_L_couple l G cy hl0 h0 h1 h2 h5 h6 h7 h8 h9 h10 h11 h12 h13 h14 h15 (xs 2) j (by omega) (by omega) hb1 hb2).e) [0, 1, 2] [3, 4] rfl rfl rfl rfl rfl (by decide) rfl hl.1 rfl (Nat.le_of_ble_eq_true rfl) dL_law_917 ⟨Nat.le_of_ble_eq_true rfl, Nat.le_of_ble_eq_true rfl⟩ (fun _ => [(h3, .inr (12, [.int 0, .ref h4, .int 0, .int 0, .int 0, .int (-1), .int 0, .int 0, .ref h16, .ref h17, .ref h18, .ref h19, .int 0, .ref h20, .ref h21, .int 0, .ref h22, .ref h23, .ref h24, .ref h25, .ref h26, .int 0, .ref h27, .ref h28, .ref h29, .int 0, .ref h30, .ref h31, .ref h32, .int 0, .int 0, .ref h33, .ref h34, .ref h35, .int 0, .long 0, .long 0, .ref h36, .ref h37, .ref h38, .ref h39, .ref h40, .ref h41, .ref h42, .ref h43, .ref h44, .ref h45, .int 0, .int 0, .ref h46, .ref h47, .ref h48, .ref h49, .ref h50, .ref h51, .ref h52, .ref h53, .ref h54, .int 0, .int 0, .int 0, .int 0, .long 0, .ref h55, .ref h56, .ref h57, .int 0, .int 0, .long 0])), (h4, .inl (cy 0, 3, .inl (kc 0)))]) (fun _ => rfl) (fun qs1 H locs hT => ?_)
  refine lv_istore (pc := 920) (lv' := [(5, .int 2), (0, .ref b), (1, .ref h0), (2, .ref h3), (3, .ref h5), (4, .int 0)]) hx hb dL_law_920 hl (by decide) rfl (fun ls hl => ?_)
  refine lv_aload_n (pc := 922) hx hb dL_law_922 rfl (lv_at hl 3 rfl) ?_
  refine lv_aload_n (pc := 923) hx hb dL_law_923 rfl (lv_at hl 1 rfl) ?_
  refine lv_iload (pc := 924) hx hb dL_law_924 (lv_at hl 5 rfl) ?_
  refine lv_iconst (pc := 926) (v := 1) hx hb dL_law_926 (by decide) ?_
  refine z_iadd (pc := 927) (v := 1) hx hb dL_law_927 (by decide) ?_
  refine z_sld (pc := 928) (v := (nI j)) hx hb hX hbl hbA hT 1 rfl (by decide) hs1 dL_law_928 ?_
  refine lv_aload_n (pc := 929) hx hb dL_law_929 rfl (lv_at hl 1 rfl) ?_
  refine lv_iload (pc := 930) hx hb dL_law_930 (lv_at hl 5 rfl) ?_
  refine lv_iconst (pc := 932) (v := 2) hx hb dL_law_932 (by decide) ?_
  refine z_iadd (pc := 933) (v := 2) hx hb dL_law_933 (by decide) ?_
  refine z_sld (pc := 934) (v := (xs 2)) hx hb hX hbl hbA hT 2 rfl (by decide) rfl dL_law_934 ?_
  refine z_cVI (pc := 935) hx hb hml hown hts hK hA hT lkV_RL_137 (k706_X12_couple l G cy h3 h4 h16 h17 h18 h19 h20 h21 h22 h23 h24 h25 h26 h27 h28 h29 h30 h31 h32 h33 h34 h35 h36 h37 h38 h39 h40 h41 h42 h43 h44 h45 h46 h47 h48 h49 h50 h51 h52 h53 h54 h55 h56 h57 (xs 2) j (by omega) (by omega) hb1 hb2) [0, 1] [] rfl rfl rfl rfl rfl 0 rfl rfl (by decide) rfl hl.1 rfl (Nat.le_of_ble_eq_true rfl) dL_law_935 ⟨Nat.le_of_ble_eq_true rfl, Nat.le_of_ble_eq_true rfl⟩ (fun _ => [(h3, .inr (12, [.int 2, .ref h4, .int 0, .int 0, .int 0, .int (-1), .int 0, .int 0, .ref h16, .ref h17, .ref h18, .ref h19, .int 0, .ref h20, .ref h21, .int 0, .ref h22, .ref h23, .ref h24, .ref h25, .ref h26, .int 0, .ref h27, .ref h28, .ref h29, .int 0, .ref h30, .ref h31, .ref h32, .int 0, .int 0, .ref h33, .ref h34, .ref h35, .int 0, .long 0, .long 0, .ref h36, .ref h37, .ref h38, .ref h39, .ref h40, .ref h41, .ref h42, .ref h43, .ref h44, .ref h45, .int 0, .int 0, .ref h46, .ref h47, .ref h48, .ref h49, .ref h50, .ref h51, .ref h52, .ref h53, .ref h54, .int 0, .int 0, .int 0, .int 0, .long 0, .ref h55, .ref h56, .ref h57, .int 0, .int 0, .long 0]))]) (fun _ => rfl) (fun qs2 H locs hT => ?_)
  refine lv_istore (pc := 938) (lv' := [(6, .int 0), (5, .int 2), (0, .ref b), (1, .ref h0), (2, .ref h3), (3, .ref h5), (4, .int 0)]) hx hb dL_law_938 hl (by decide) rfl (fun ls hl => ?_)
  refine lv_aload_n (pc := 940) hx hb dL_law_940 rfl (lv_at hl 4 rfl) ?_
  refine z_cVI (pc := 941) hx hb hml hown hts hK hA hT lkV_RL_96 (k1052_X12_thrown l G cy h3 h4 h16 h17 h18 h19 h20 h21 h22 h23 h24 h25 h26 h27 h28 h29 h30 h31 h32 h33 h34 h35 h36 h37 h38 h39 h40 h41 h42 h43 h44 h45 h46 h47 h48 h49 h50 h51 h52 h53 h54 h55 h56 h57) [0] [] rfl rfl rfl rfl rfl 0 rfl rfl (by decide) rfl hl.1 rfl (Nat.le_of_ble_eq_true rfl) dL_law_941 ⟨Nat.le_of_ble_eq_true rfl, Nat.le_of_ble_eq_true rfl⟩ (fun _ => [(h3, .inr (12, [.int 2, .ref h4, .int 0, .int 0, .int 0, .int (-1), .int 0, .int 0, .ref h16, .ref h17, .ref h18, .ref h19, .int 0, .ref h20, .ref h21, .int 0, .ref h22, .ref h23, .ref h24, .ref h25, .ref h26, .int 0, .ref h27, .ref h28, .ref h29, .int 0, .ref h30, .ref h31, .ref h32, .int 0, .int 0, .ref h33, .ref h34, .ref h35, .int 0, .long 0, .long 0, .ref h36, .ref h37, .ref h38, .ref h39, .ref h40, .ref h41, .ref h42, .ref h43, .ref h44, .ref h45, .int 0, .int 0, .ref h46, .ref h47, .ref h48, .ref h49, .ref h50, .ref h51, .ref h52, .ref h53, .ref h54, .int 0, .int 0, .int 0, .int 0, .long 0, .ref h55, .ref h56, .ref h57, .int 0, .int 0, .long 0]))]) (fun _ => rfl) (fun qs3 H locs hT => ?_)
  refine lv_iload (pc := 944) hx hb dL_law_944 (lv_at hl 1 rfl) ?_
  refine zb_icmp_eq_t (pc := 946) (tgt := 951) hx hb dL_law_946 (by decide) (by decide) ?_
  refine lv_iload (pc := 951) hx hb dL_law_951 (lv_at hl 1 rfl) ?_
  refine zb_if_ne_t (pc := 953) (tgt := 968) hx hb dL_law_953 (by decide) (by decide) ?_
  refine lv_goto (pc := 968) (tgt := 1719) hx hb dL_law_968 (by decide) ?_
  exact q_end hx hb hr hlk hX hbl hT (lv_sub hl [2, 6] rfl) (Nat.le_of_ble_eq_true rfl) (Nat.le_of_ble_eq_true rfl)
set_option maxHeartbeats 4000000 in
set_option maxRecDepth 100000 in
theorem q_text_0_neg {p : Program} {l : Launch} {e : Env} {s : State} {m : MethodId} {below : List Frame} {meth : Method} {c : Code} {H : Heap} {locs : List Loc} {ls : Array Slot} {G : va_G} {cy : Nat → ClassId} {b : Nat} {xs : Nat → Int32} (C : zC l G cy p s m meth c b 6 xs) (h0 h1 h2 h3 h4 h5 h6 h7 h8 h9 h10 h11 h12 h13 h14 h15 h16 h17 h18 h19 h20 h21 h22 h23 h24 h25 h26 h27 h28 h29 h30 h31 h32 h33 h34 h35 h36 h37 h38 h39 h40 h41 h42 h43 h44 h45 h46 h47 h48 h49 h50 h51 h52 h53 h54 h55 h56 : Nat) (hneg : ((xs 1) : Int32) < 0) (hT : zT G (fun q => s.heap.size ≤ q) s.heap H locs [(h0, .inr (11, [.ref h5, .ref h6, .ref h7, .ref h8, .ref h9, .ref h10, .ref h11, .ref h12, .ref h13, .ref h14, .ref h1, .int (-1), .int (-1), .int (-1), .int (-1)])), (h1, .inl (cy 0, 3, .inl (kc 0))), (h2, .inr (12, [.int 0, .ref h3, .int 0, .int 0, .int 0, .int (-1), .int 0, .int 0, .ref h15, .ref h16, .ref h17, .ref h18, .int 0, .ref h19, .ref h20, .int 0, .ref h21, .ref h22, .ref h23, .ref h24, .ref h25, .int 0, .ref h26, .ref h27, .ref h28, .int 0, .ref h29, .ref h30, .ref h31, .int 0, .int 0, .ref h32, .ref h33, .ref h34, .int 0, .long 0, .long 0, .ref h35, .ref h36, .ref h37, .ref h38, .ref h39, .ref h40, .ref h41, .ref h42, .ref h43, .ref h44, .int 0, .int 0, .ref h45, .ref h46, .ref h47, .ref h48, .ref h49, .ref h50, .ref h51, .ref h52, .ref h53, .int 0, .int 0, .int 0, .int 0, .long 0, .ref h54, .ref h55, .ref h56, .int 0, .int 0, .long 0])), (h3, .inl (cy 0, 3, .inl (kc 0)))]) (hl : lv_has ls 8 [(0, .ref b), (1, .ref h0), (2, .ref h2), (3, .ref h4), (4, .int 0)]) : W p l e (zR 1000 600002 7302232) s m #[Value.ref b] below meth c H locs 476 284354 (lw_Z below #[Value.ref b] s) (F0 m 229 ls []) := by
  obtain ⟨hl0, hx, hb, hr, hml, hown, hts, hX, hbl, hlk, hK, hE, q1, v1, q2, v2, hS⟩ := C
  have hA : ∀ q : Nat, s.heap.size ≤ q → (fun q => s.heap.size ≤ q) q := fun _ h => h
  have hbA : ¬ (fun q => s.heap.size ≤ q) b := Nat.not_le.mpr hbl
  refine lv_aload_n (pc := 229) hx hb dL_law_229 rfl (lv_at hl 1 rfl) ?_
  refine lv_aload_n (pc := 230) hx hb dL_law_230 rfl (lv_at hl 0 rfl) ?_
  refine lv_iload (pc := 231) hx hb dL_law_231 (lv_at hl 4 rfl) ?_
  refine lv_iconst (pc := 233) (v := 1) hx hb dL_law_233 (by decide) ?_
  refine z_iadd (pc := 234) (v := 1) hx hb dL_law_234 (by decide) ?_
  refine z_sld (pc := 235) (v := (xs 1)) hx hb hX hbl hbA hT 1 rfl (by decide) rfl dL_law_235 ?_
  refine lv_aload_n (pc := 236) hx hb dL_law_236 rfl (lv_at hl 0 rfl) ?_
  refine lv_iload (pc := 237) hx hb dL_law_237 (lv_at hl 4 rfl) ?_
  refine lv_iconst (pc := 239) (v := 2) hx hb dL_law_239 (by decide) ?_
  refine z_iadd (pc := 240) (v := 2) hx hb dL_law_240 (by decide) ?_
  refine z_sld (pc := 241) (v := (xs 2)) hx hb hX hbl hbA hT 2 rfl (by decide) rfl dL_law_241 ?_
  refine lv_aload_n (pc := 242) hx hb dL_law_242 rfl (lv_at hl 3 rfl) ?_
  refine z_eHI (pc := 243) zE_ok hE hx hb hml hown hts hK hA hT lkH_RL_90 ((k860_L_text l G cy hl0 h0 h1 h4 h5 h6 h7 h8 h9 h10 h11 h12 h13 h14 (xs 1) (xs 2) hneg).e) [0, 1] [2, 3] rfl rfl rfl rfl rfl (by decide) rfl hl.1 rfl (Nat.le_of_ble_eq_true rfl) dL_law_243 ⟨Nat.le_of_ble_eq_true rfl, Nat.le_of_ble_eq_true rfl⟩ (fun _ => [(h2, .inr (12, [.int 0, .ref h3, .int 0, .int 0, .int 0, .int (-1), .int 0, .int 0, .ref h15, .ref h16, .ref h17, .ref h18, .int 0, .ref h19, .ref h20, .int 0, .ref h21, .ref h22, .ref h23, .ref h24, .ref h25, .int 0, .ref h26, .ref h27, .ref h28, .int 0, .ref h29, .ref h30, .ref h31, .int 0, .int 0, .ref h32, .ref h33, .ref h34, .int 0, .long 0, .long 0, .ref h35, .ref h36, .ref h37, .ref h38, .ref h39, .ref h40, .ref h41, .ref h42, .ref h43, .ref h44, .int 0, .int 0, .ref h45, .ref h46, .ref h47, .ref h48, .ref h49, .ref h50, .ref h51, .ref h52, .ref h53, .int 0, .int 0, .int 0, .int 0, .long 0, .ref h54, .ref h55, .ref h56, .int 0, .int 0, .long 0])), (h3, .inl (cy 0, 3, .inl (kc 0)))]) (fun _ => rfl) (fun qs1 H locs hT => ?_)
  refine lv_istore (pc := 246) (lv' := [(5, .int 1), (0, .ref b), (1, .ref h0), (2, .ref h2), (3, .ref h4), (4, .int 0)]) hx hb dL_law_246 hl (by decide) rfl (fun ls hl => ?_)
  refine lv_aload_n (pc := 248) hx hb dL_law_248 rfl (lv_at hl 3 rfl) ?_
  refine lv_aload_n (pc := 249) hx hb dL_law_249 rfl (lv_at hl 1 rfl) ?_
  refine lv_iload (pc := 250) hx hb dL_law_250 (lv_at hl 5 rfl) ?_
  refine lv_iconst (pc := 252) (v := 1) hx hb dL_law_252 (by decide) ?_
  refine z_iadd (pc := 253) (v := 1) hx hb dL_law_253 (by decide) ?_
  refine z_sld (pc := 254) (v := (xs 1)) hx hb hX hbl hbA hT 1 rfl (by decide) rfl dL_law_254 ?_
  refine lv_aload_n (pc := 255) hx hb dL_law_255 rfl (lv_at hl 1 rfl) ?_
  refine lv_iload (pc := 256) hx hb dL_law_256 (lv_at hl 5 rfl) ?_
  refine lv_iconst (pc := 258) (v := 2) hx hb dL_law_258 (by decide) ?_
  refine z_iadd (pc := 259) (v := 2) hx hb dL_law_259 (by decide) ?_
  refine z_sld (pc := 260) (v := (xs 2)) hx hb hX hbl hbA hT 2 rfl (by decide) rfl dL_law_260 ?_
  refine z_cVI (pc := 261) hx hb hml hown hts hK hA hT lkV_RL_95 (k707_X12_text l G cy h2 h3 h15 h16 h17 h18 h19 h20 h21 h22 h23 h24 h25 h26 h27 h28 h29 h30 h31 h32 h33 h34 h35 h36 h37 h38 h39 h40 h41 h42 h43 h44 h45 h46 h47 h48 h49 h50 h51 h52 h53 h54 h55 h56 (xs 1) (xs 2) hneg) [0, 1] [] rfl rfl rfl rfl rfl 0 rfl rfl (by decide) rfl hl.1 rfl (Nat.le_of_ble_eq_true rfl) dL_law_261 ⟨Nat.le_of_ble_eq_true rfl, Nat.le_of_ble_eq_true rfl⟩ (fun _ => [(h2, .inr (12, [.int 1, .ref h3, .int 0, .int 0, .int 0, .int (-1), .int 0, .int 0, .ref h15, .ref h16, .ref h17, .ref h18, .int 0, .ref h19, .ref h20, .int 0, .ref h21, .ref h22, .ref h23, .ref h24, .ref h25, .int 0, .ref h26, .ref h27, .ref h28, .int 0, .ref h29, .ref h30, .ref h31, .int 0, .int 0, .ref h32, .ref h33, .ref h34, .int 0, .long 0, .long 0, .ref h35, .ref h36, .ref h37, .ref h38, .ref h39, .ref h40, .ref h41, .ref h42, .ref h43, .ref h44, .int 0, .int 0, .ref h45, .ref h46, .ref h47, .ref h48, .ref h49, .ref h50, .ref h51, .ref h52, .ref h53, .int 0, .int 0, .int 0, .int 0, .long 0, .ref h54, .ref h55, .ref h56, .int 0, .int 0, .long 0]))]) (fun _ => rfl) (fun qs2 H locs hT => ?_)
  refine lv_istore (pc := 264) (lv' := [(6, .int 0), (5, .int 1), (0, .ref b), (1, .ref h0), (2, .ref h2), (3, .ref h4), (4, .int 0)]) hx hb dL_law_264 hl (by decide) rfl (fun ls hl => ?_)
  refine lv_aload_n (pc := 266) hx hb dL_law_266 rfl (lv_at hl 4 rfl) ?_
  refine z_cVI (pc := 267) hx hb hml hown hts hK hA hT lkV_RL_96 (k1051_X12_thrown l G cy h2 h3 h15 h16 h17 h18 h19 h20 h21 h22 h23 h24 h25 h26 h27 h28 h29 h30 h31 h32 h33 h34 h35 h36 h37 h38 h39 h40 h41 h42 h43 h44 h45 h46 h47 h48 h49 h50 h51 h52 h53 h54 h55 h56) [0] [] rfl rfl rfl rfl rfl 0 rfl rfl (by decide) rfl hl.1 rfl (Nat.le_of_ble_eq_true rfl) dL_law_267 ⟨Nat.le_of_ble_eq_true rfl, Nat.le_of_ble_eq_true rfl⟩ (fun _ => [(h2, .inr (12, [.int 1, .ref h3, .int 0, .int 0, .int 0, .int (-1), .int 0, .int 0, .ref h15, .ref h16, .ref h17, .ref h18, .int 0, .ref h19, .ref h20, .int 0, .ref h21, .ref h22, .ref h23, .ref h24, .ref h25, .int 0, .ref h26, .ref h27, .ref h28, .int 0, .ref h29, .ref h30, .ref h31, .int 0, .int 0, .ref h32, .ref h33, .ref h34, .int 0, .long 0, .long 0, .ref h35, .ref h36, .ref h37, .ref h38, .ref h39, .ref h40, .ref h41, .ref h42, .ref h43, .ref h44, .int 0, .int 0, .ref h45, .ref h46, .ref h47, .ref h48, .ref h49, .ref h50, .ref h51, .ref h52, .ref h53, .int 0, .int 0, .int 0, .int 0, .long 0, .ref h54, .ref h55, .ref h56, .int 0, .int 0, .long 0]))]) (fun _ => rfl) (fun qs3 H locs hT => ?_)
  refine lv_iload (pc := 270) hx hb dL_law_270 (lv_at hl 1 rfl) ?_
  refine zb_icmp_eq_t (pc := 272) (tgt := 277) hx hb dL_law_272 (by decide) (by decide) ?_
  refine lv_iload (pc := 277) hx hb dL_law_277 (lv_at hl 1 rfl) ?_
  refine zb_if_ne_t (pc := 279) (tgt := 294) hx hb dL_law_279 (by decide) (by decide) ?_
  refine lv_goto (pc := 294) (tgt := 1719) hx hb dL_law_294 (by decide) ?_
  exact q_end hx hb hr hlk hX hbl hT (lv_sub hl [2, 6] rfl) (Nat.le_of_ble_eq_true rfl) (Nat.le_of_ble_eq_true rfl)
set_option maxHeartbeats 4000000 in
set_option maxRecDepth 100000 in
theorem q_text_0_big {p : Program} {l : Launch} {e : Env} {s : State} {m : MethodId} {below : List Frame} {meth : Method} {c : Code} {H : Heap} {locs : List Loc} {ls : Array Slot} {G : va_G} {cy : Nat → ClassId} {b : Nat} {xs : Nat → Int32} (C : zC l G cy p s m meth c b 6 xs) (h0 h1 h2 h3 h4 h5 h6 h7 h8 h9 h10 h11 h12 h13 h14 h15 h16 h17 h18 h19 h20 h21 h22 h23 h24 h25 h26 h27 h28 h29 h30 h31 h32 h33 h34 h35 h36 h37 h38 h39 h40 h41 h42 h43 h44 h45 h46 h47 h48 h49 h50 h51 h52 h53 h54 h55 h56 : Nat) (hb1 : ¬ ((xs 1) : Int32) < 0) (hb2 : ¬ ((xs 1) : Int32) < 6) (hb3 : (5 : Int32) < (xs 1)) (hT : zT G (fun q => s.heap.size ≤ q) s.heap H locs [(h0, .inr (11, [.ref h5, .ref h6, .ref h7, .ref h8, .ref h9, .ref h10, .ref h11, .ref h12, .ref h13, .ref h14, .ref h1, .int (-1), .int (-1), .int (-1), .int (-1)])), (h1, .inl (cy 0, 3, .inl (kc 0))), (h2, .inr (12, [.int 0, .ref h3, .int 0, .int 0, .int 0, .int (-1), .int 0, .int 0, .ref h15, .ref h16, .ref h17, .ref h18, .int 0, .ref h19, .ref h20, .int 0, .ref h21, .ref h22, .ref h23, .ref h24, .ref h25, .int 0, .ref h26, .ref h27, .ref h28, .int 0, .ref h29, .ref h30, .ref h31, .int 0, .int 0, .ref h32, .ref h33, .ref h34, .int 0, .long 0, .long 0, .ref h35, .ref h36, .ref h37, .ref h38, .ref h39, .ref h40, .ref h41, .ref h42, .ref h43, .ref h44, .int 0, .int 0, .ref h45, .ref h46, .ref h47, .ref h48, .ref h49, .ref h50, .ref h51, .ref h52, .ref h53, .int 0, .int 0, .int 0, .int 0, .long 0, .ref h54, .ref h55, .ref h56, .int 0, .int 0, .long 0])), (h3, .inl (cy 0, 3, .inl (kc 0)))]) (hl : lv_has ls 8 [(0, .ref b), (1, .ref h0), (2, .ref h2), (3, .ref h4), (4, .int 0)]) : W p l e (zR 1000 600002 7302232) s m #[Value.ref b] below meth c H locs 476 284354 (lw_Z below #[Value.ref b] s) (F0 m 229 ls []) := by
  obtain ⟨hl0, hx, hb, hr, hml, hown, hts, hX, hbl, hlk, hK, hE, q1, v1, q2, v2, hS⟩ := C
  have hA : ∀ q : Nat, s.heap.size ≤ q → (fun q => s.heap.size ≤ q) q := fun _ h => h
  have hbA : ¬ (fun q => s.heap.size ≤ q) b := Nat.not_le.mpr hbl
  refine lv_aload_n (pc := 229) hx hb dL_law_229 rfl (lv_at hl 1 rfl) ?_
  refine lv_aload_n (pc := 230) hx hb dL_law_230 rfl (lv_at hl 0 rfl) ?_
  refine lv_iload (pc := 231) hx hb dL_law_231 (lv_at hl 4 rfl) ?_
  refine lv_iconst (pc := 233) (v := 1) hx hb dL_law_233 (by decide) ?_
  refine z_iadd (pc := 234) (v := 1) hx hb dL_law_234 (by decide) ?_
  refine z_sld (pc := 235) (v := (xs 1)) hx hb hX hbl hbA hT 1 rfl (by decide) rfl dL_law_235 ?_
  refine lv_aload_n (pc := 236) hx hb dL_law_236 rfl (lv_at hl 0 rfl) ?_
  refine lv_iload (pc := 237) hx hb dL_law_237 (lv_at hl 4 rfl) ?_
  refine lv_iconst (pc := 239) (v := 2) hx hb dL_law_239 (by decide) ?_
  refine z_iadd (pc := 240) (v := 2) hx hb dL_law_240 (by decide) ?_
  refine z_sld (pc := 241) (v := (xs 2)) hx hb hX hbl hbA hT 2 rfl (by decide) rfl dL_law_241 ?_
  refine lv_aload_n (pc := 242) hx hb dL_law_242 rfl (lv_at hl 3 rfl) ?_
  refine z_eHI (pc := 243) zE_ok hE hx hb hml hown hts hK hA hT lkH_RL_90 ((k861_L_text l G cy hl0 h0 h1 h4 h5 h6 h7 h8 h9 h10 h11 h12 h13 h14 (xs 1) (xs 2) hb1 hb2).e) [0, 1] [2, 3] rfl rfl rfl rfl rfl (by decide) rfl hl.1 rfl (Nat.le_of_ble_eq_true rfl) dL_law_243 ⟨Nat.le_of_ble_eq_true rfl, Nat.le_of_ble_eq_true rfl⟩ (fun _ => [(h2, .inr (12, [.int 0, .ref h3, .int 0, .int 0, .int 0, .int (-1), .int 0, .int 0, .ref h15, .ref h16, .ref h17, .ref h18, .int 0, .ref h19, .ref h20, .int 0, .ref h21, .ref h22, .ref h23, .ref h24, .ref h25, .int 0, .ref h26, .ref h27, .ref h28, .int 0, .ref h29, .ref h30, .ref h31, .int 0, .int 0, .ref h32, .ref h33, .ref h34, .int 0, .long 0, .long 0, .ref h35, .ref h36, .ref h37, .ref h38, .ref h39, .ref h40, .ref h41, .ref h42, .ref h43, .ref h44, .int 0, .int 0, .ref h45, .ref h46, .ref h47, .ref h48, .ref h49, .ref h50, .ref h51, .ref h52, .ref h53, .int 0, .int 0, .int 0, .int 0, .long 0, .ref h54, .ref h55, .ref h56, .int 0, .int 0, .long 0])), (h3, .inl (cy 0, 3, .inl (kc 0)))]) (fun _ => rfl) (fun qs1 H locs hT => ?_)
  refine lv_istore (pc := 246) (lv' := [(5, .int 1), (0, .ref b), (1, .ref h0), (2, .ref h2), (3, .ref h4), (4, .int 0)]) hx hb dL_law_246 hl (by decide) rfl (fun ls hl => ?_)
  refine lv_aload_n (pc := 248) hx hb dL_law_248 rfl (lv_at hl 3 rfl) ?_
  refine lv_aload_n (pc := 249) hx hb dL_law_249 rfl (lv_at hl 1 rfl) ?_
  refine lv_iload (pc := 250) hx hb dL_law_250 (lv_at hl 5 rfl) ?_
  refine lv_iconst (pc := 252) (v := 1) hx hb dL_law_252 (by decide) ?_
  refine z_iadd (pc := 253) (v := 1) hx hb dL_law_253 (by decide) ?_
  refine z_sld (pc := 254) (v := (xs 1)) hx hb hX hbl hbA hT 1 rfl (by decide) rfl dL_law_254 ?_
  refine lv_aload_n (pc := 255) hx hb dL_law_255 rfl (lv_at hl 1 rfl) ?_
  refine lv_iload (pc := 256) hx hb dL_law_256 (lv_at hl 5 rfl) ?_
  refine lv_iconst (pc := 258) (v := 2) hx hb dL_law_258 (by decide) ?_
  refine z_iadd (pc := 259) (v := 2) hx hb dL_law_259 (by decide) ?_
  refine z_sld (pc := 260) (v := (xs 2)) hx hb hX hbl hbA hT 2 rfl (by decide) rfl dL_law_260 ?_
  refine z_cVI (pc := 261) hx hb hml hown hts hK hA hT lkV_RL_95 (k708_X12_text l G cy h2 h3 h15 h16 h17 h18 h19 h20 h21 h22 h23 h24 h25 h26 h27 h28 h29 h30 h31 h32 h33 h34 h35 h36 h37 h38 h39 h40 h41 h42 h43 h44 h45 h46 h47 h48 h49 h50 h51 h52 h53 h54 h55 h56 (xs 1) (xs 2) hb1 hb3) [0, 1] [] rfl rfl rfl rfl rfl 0 rfl rfl (by decide) rfl hl.1 rfl (Nat.le_of_ble_eq_true rfl) dL_law_261 ⟨Nat.le_of_ble_eq_true rfl, Nat.le_of_ble_eq_true rfl⟩ (fun _ => [(h2, .inr (12, [.int 1, .ref h3, .int 0, .int 0, .int 0, .int (-1), .int 0, .int 0, .ref h15, .ref h16, .ref h17, .ref h18, .int 0, .ref h19, .ref h20, .int 0, .ref h21, .ref h22, .ref h23, .ref h24, .ref h25, .int 0, .ref h26, .ref h27, .ref h28, .int 0, .ref h29, .ref h30, .ref h31, .int 0, .int 0, .ref h32, .ref h33, .ref h34, .int 0, .long 0, .long 0, .ref h35, .ref h36, .ref h37, .ref h38, .ref h39, .ref h40, .ref h41, .ref h42, .ref h43, .ref h44, .int 0, .int 0, .ref h45, .ref h46, .ref h47, .ref h48, .ref h49, .ref h50, .ref h51, .ref h52, .ref h53, .int 0, .int 0, .int 0, .int 0, .long 0, .ref h54, .ref h55, .ref h56, .int 0, .int 0, .long 0]))]) (fun _ => rfl) (fun qs2 H locs hT => ?_)
  refine lv_istore (pc := 264) (lv' := [(6, .int 0), (5, .int 1), (0, .ref b), (1, .ref h0), (2, .ref h2), (3, .ref h4), (4, .int 0)]) hx hb dL_law_264 hl (by decide) rfl (fun ls hl => ?_)
  refine lv_aload_n (pc := 266) hx hb dL_law_266 rfl (lv_at hl 4 rfl) ?_
  refine z_cVI (pc := 267) hx hb hml hown hts hK hA hT lkV_RL_96 (k1051_X12_thrown l G cy h2 h3 h15 h16 h17 h18 h19 h20 h21 h22 h23 h24 h25 h26 h27 h28 h29 h30 h31 h32 h33 h34 h35 h36 h37 h38 h39 h40 h41 h42 h43 h44 h45 h46 h47 h48 h49 h50 h51 h52 h53 h54 h55 h56) [0] [] rfl rfl rfl rfl rfl 0 rfl rfl (by decide) rfl hl.1 rfl (Nat.le_of_ble_eq_true rfl) dL_law_267 ⟨Nat.le_of_ble_eq_true rfl, Nat.le_of_ble_eq_true rfl⟩ (fun _ => [(h2, .inr (12, [.int 1, .ref h3, .int 0, .int 0, .int 0, .int (-1), .int 0, .int 0, .ref h15, .ref h16, .ref h17, .ref h18, .int 0, .ref h19, .ref h20, .int 0, .ref h21, .ref h22, .ref h23, .ref h24, .ref h25, .int 0, .ref h26, .ref h27, .ref h28, .int 0, .ref h29, .ref h30, .ref h31, .int 0, .int 0, .ref h32, .ref h33, .ref h34, .int 0, .long 0, .long 0, .ref h35, .ref h36, .ref h37, .ref h38, .ref h39, .ref h40, .ref h41, .ref h42, .ref h43, .ref h44, .int 0, .int 0, .ref h45, .ref h46, .ref h47, .ref h48, .ref h49, .ref h50, .ref h51, .ref h52, .ref h53, .int 0, .int 0, .int 0, .int 0, .long 0, .ref h54, .ref h55, .ref h56, .int 0, .int 0, .long 0]))]) (fun _ => rfl) (fun qs3 H locs hT => ?_)
  refine lv_iload (pc := 270) hx hb dL_law_270 (lv_at hl 1 rfl) ?_
  refine zb_icmp_eq_t (pc := 272) (tgt := 277) hx hb dL_law_272 (by decide) (by decide) ?_
  refine lv_iload (pc := 277) hx hb dL_law_277 (lv_at hl 1 rfl) ?_
  refine zb_if_ne_t (pc := 279) (tgt := 294) hx hb dL_law_279 (by decide) (by decide) ?_
  refine lv_goto (pc := 294) (tgt := 1719) hx hb dL_law_294 (by decide) ?_
  exact q_end hx hb hr hlk hX hbl hT (lv_sub hl [2, 6] rfl) (Nat.le_of_ble_eq_true rfl) (Nat.le_of_ble_eq_true rfl)
set_option maxHeartbeats 4000000 in
set_option maxRecDepth 100000 in
theorem q_text_1_neg {p : Program} {l : Launch} {e : Env} {s : State} {m : MethodId} {below : List Frame} {meth : Method} {c : Code} {H : Heap} {locs : List Loc} {ls : Array Slot} {G : va_G} {cy : Nat → ClassId} {b : Nat} {xs : Nat → Int32} (C : zC l G cy p s m meth c b 6 xs) (h0 h1 h2 h3 h4 h5 h6 h7 h8 h9 h10 h11 h12 h13 h14 h15 h16 h17 h18 h19 h20 h21 h22 h23 h24 h25 h26 h27 h28 h29 h30 h31 h32 h33 h34 h35 h36 h37 h38 h39 h40 h41 h42 h43 h44 h45 h46 h47 h48 h49 h50 h51 h52 h53 h54 h55 h56 h57 : Nat) (j : Nat) (hloj : 0 ≤ j) (hhij : j < 6) (hs1 : xs 1 = (nI j)) (hneg : ((xs 2) : Int32) < 0) (hT : zT G (fun q => s.heap.size ≤ q) s.heap H locs [(h0, .inr (11, [.ref h6, .ref h7, .ref h1, .ref h8, .ref h9, .ref h10, .ref h11, .ref h12, .ref h13, .ref h14, .ref h2, .int (-1), .int (-1), .int (-1), .int (-1)])), (h1, .inr (9, [.int 0, .ref h15, .int 0, .int 0, .int 0, .int 0])), (h2, .inl (cy 0, 3, .inl (kc 0))), (h3, .inr (12, [.int 0, .ref h4, .int 0, .int 0, .int 0, .int (-1), .int 0, .int 0, .ref h16, .ref h17, .ref h18, .ref h19, .int 0, .ref h20, .ref h21, .int 0, .ref h22, .ref h23, .ref h24, .ref h25, .ref h26, .int 0, .ref h27, .ref h28, .ref h29, .int 0, .ref h30, .ref h31, .ref h32, .int 0, .int 0, .ref h33, .ref h34, .ref h35, .int 0, .long 0, .long 0, .ref h36, .ref h37, .ref h38, .ref h39, .ref h40, .ref h41, .ref h42, .ref h43, .ref h44, .ref h45, .int 0, .int 0, .ref h46, .ref h47, .ref h48, .ref h49, .ref h50, .ref h51, .ref h52, .ref h53, .ref h54, .int 0, .int 0, .int 0, .int 0, .long 0, .ref h55, .ref h56, .ref h57, .int 0, .int 0, .long 0])), (h4, .inl (cy 0, 3, .inl (kc 0)))]) (hl : lv_has ls 8 [(0, .ref b), (1, .ref h0), (2, .ref h3), (3, .ref h5), (4, .int 0)]) : W p l e (zR 1000 600002 7302232) s m #[Value.ref b] below meth c H locs 476 284354 (lw_Z below #[Value.ref b] s) (F0 m 229 ls []) := by
  obtain ⟨hl0, hx, hb, hr, hml, hown, hts, hX, hbl, hlk, hK, hE, q1, v1, q2, v2, hS⟩ := C
  have hA : ∀ q : Nat, s.heap.size ≤ q → (fun q => s.heap.size ≤ q) q := fun _ h => h
  have hbA : ¬ (fun q => s.heap.size ≤ q) b := Nat.not_le.mpr hbl
  refine lv_aload_n (pc := 229) hx hb dL_law_229 rfl (lv_at hl 1 rfl) ?_
  refine lv_aload_n (pc := 230) hx hb dL_law_230 rfl (lv_at hl 0 rfl) ?_
  refine lv_iload (pc := 231) hx hb dL_law_231 (lv_at hl 4 rfl) ?_
  refine lv_iconst (pc := 233) (v := 1) hx hb dL_law_233 (by decide) ?_
  refine z_iadd (pc := 234) (v := 1) hx hb dL_law_234 (by decide) ?_
  refine z_sld (pc := 235) (v := (nI j)) hx hb hX hbl hbA hT 1 rfl (by decide) hs1 dL_law_235 ?_
  refine lv_aload_n (pc := 236) hx hb dL_law_236 rfl (lv_at hl 0 rfl) ?_
  refine lv_iload (pc := 237) hx hb dL_law_237 (lv_at hl 4 rfl) ?_
  refine lv_iconst (pc := 239) (v := 2) hx hb dL_law_239 (by decide) ?_
  refine z_iadd (pc := 240) (v := 2) hx hb dL_law_240 (by decide) ?_
  refine z_sld (pc := 241) (v := (xs 2)) hx hb hX hbl hbA hT 2 rfl (by decide) rfl dL_law_241 ?_
  refine lv_aload_n (pc := 242) hx hb dL_law_242 rfl (lv_at hl 3 rfl) ?_
  refine z_eHI (pc := 243) zE_ok hE hx hb hml hown hts hK hA hT lkH_RL_90 ((k862_L_text l G cy hl0 h0 h1 h2 h5 h6 h7 h8 h9 h10 h11 h12 h13 h14 h15 (xs 2) j (by omega) (by omega) hneg).e) [0, 1, 2] [3, 4] rfl rfl rfl rfl rfl (by decide) rfl hl.1 rfl (Nat.le_of_ble_eq_true rfl) dL_law_243 ⟨Nat.le_of_ble_eq_true rfl, Nat.le_of_ble_eq_true rfl⟩ (fun _ => [(h3, .inr (12, [.int 0, .ref h4, .int 0, .int 0, .int 0, .int (-1), .int 0, .int 0, .ref h16, .ref h17, .ref h18, .ref h19, .int 0, .ref h20, .ref h21, .int 0, .ref h22, .ref h23, .ref h24, .ref h25, .ref h26, .int 0, .ref h27, .ref h28, .ref h29, .int 0, .ref h30, .ref h31, .ref h32, .int 0, .int 0, .ref h33, .ref h34, .ref h35, .int 0, .long 0, .long 0, .ref h36, .ref h37, .ref h38, .ref h39, .ref h40, .ref h41, .ref h42, .ref h43, .ref h44, .ref h45, .int 0, .int 0, .ref h46, .ref h47, .ref h48, .ref h49, .ref h50, .ref h51, .ref h52, .ref h53, .ref h54, .int 0, .int 0, .int 0, .int 0, .long 0, .ref h55, .ref h56, .ref h57, .int 0, .int 0, .long 0])), (h4, .inl (cy 0, 3, .inl (kc 0)))]) (fun _ => rfl) (fun qs1 H locs hT => ?_)
  refine lv_istore (pc := 246) (lv' := [(5, .int 2), (0, .ref b), (1, .ref h0), (2, .ref h3), (3, .ref h5), (4, .int 0)]) hx hb dL_law_246 hl (by decide) rfl (fun ls hl => ?_)
  refine lv_aload_n (pc := 248) hx hb dL_law_248 rfl (lv_at hl 3 rfl) ?_
  refine lv_aload_n (pc := 249) hx hb dL_law_249 rfl (lv_at hl 1 rfl) ?_
  refine lv_iload (pc := 250) hx hb dL_law_250 (lv_at hl 5 rfl) ?_
  refine lv_iconst (pc := 252) (v := 1) hx hb dL_law_252 (by decide) ?_
  refine z_iadd (pc := 253) (v := 1) hx hb dL_law_253 (by decide) ?_
  refine z_sld (pc := 254) (v := (nI j)) hx hb hX hbl hbA hT 1 rfl (by decide) hs1 dL_law_254 ?_
  refine lv_aload_n (pc := 255) hx hb dL_law_255 rfl (lv_at hl 1 rfl) ?_
  refine lv_iload (pc := 256) hx hb dL_law_256 (lv_at hl 5 rfl) ?_
  refine lv_iconst (pc := 258) (v := 2) hx hb dL_law_258 (by decide) ?_
  refine z_iadd (pc := 259) (v := 2) hx hb dL_law_259 (by decide) ?_
  refine z_sld (pc := 260) (v := (xs 2)) hx hb hX hbl hbA hT 2 rfl (by decide) rfl dL_law_260 ?_
  refine z_cVI (pc := 261) hx hb hml hown hts hK hA hT lkV_RL_95 (k709_X12_text l G cy h3 h4 h16 h17 h18 h19 h20 h21 h22 h23 h24 h25 h26 h27 h28 h29 h30 h31 h32 h33 h34 h35 h36 h37 h38 h39 h40 h41 h42 h43 h44 h45 h46 h47 h48 h49 h50 h51 h52 h53 h54 h55 h56 h57 (xs 2) j (by omega) (by omega) hneg) [0, 1] [] rfl rfl rfl rfl rfl 0 rfl rfl (by decide) rfl hl.1 rfl (Nat.le_of_ble_eq_true rfl) dL_law_261 ⟨Nat.le_of_ble_eq_true rfl, Nat.le_of_ble_eq_true rfl⟩ (fun _ => [(h3, .inr (12, [.int 2, .ref h4, .int 0, .int 0, .int 0, .int (-1), .int 0, .int 0, .ref h16, .ref h17, .ref h18, .ref h19, .int 0, .ref h20, .ref h21, .int 0, .ref h22, .ref h23, .ref h24, .ref h25, .ref h26, .int 0, .ref h27, .ref h28, .ref h29, .int 0, .ref h30, .ref h31, .ref h32, .int 0, .int 0, .ref h33, .ref h34, .ref h35, .int 0, .long 0, .long 0, .ref h36, .ref h37, .ref h38, .ref h39, .ref h40, .ref h41, .ref h42, .ref h43, .ref h44, .ref h45, .int 0, .int 0, .ref h46, .ref h47, .ref h48, .ref h49, .ref h50, .ref h51, .ref h52, .ref h53, .ref h54, .int 0, .int 0, .int 0, .int 0, .long 0, .ref h55, .ref h56, .ref h57, .int 0, .int 0, .long 0]))]) (fun _ => rfl) (fun qs2 H locs hT => ?_)
  refine lv_istore (pc := 264) (lv' := [(6, .int 0), (5, .int 2), (0, .ref b), (1, .ref h0), (2, .ref h3), (3, .ref h5), (4, .int 0)]) hx hb dL_law_264 hl (by decide) rfl (fun ls hl => ?_)
  refine lv_aload_n (pc := 266) hx hb dL_law_266 rfl (lv_at hl 4 rfl) ?_
  refine z_cVI (pc := 267) hx hb hml hown hts hK hA hT lkV_RL_96 (k1052_X12_thrown l G cy h3 h4 h16 h17 h18 h19 h20 h21 h22 h23 h24 h25 h26 h27 h28 h29 h30 h31 h32 h33 h34 h35 h36 h37 h38 h39 h40 h41 h42 h43 h44 h45 h46 h47 h48 h49 h50 h51 h52 h53 h54 h55 h56 h57) [0] [] rfl rfl rfl rfl rfl 0 rfl rfl (by decide) rfl hl.1 rfl (Nat.le_of_ble_eq_true rfl) dL_law_267 ⟨Nat.le_of_ble_eq_true rfl, Nat.le_of_ble_eq_true rfl⟩ (fun _ => [(h3, .inr (12, [.int 2, .ref h4, .int 0, .int 0, .int 0, .int (-1), .int 0, .int 0, .ref h16, .ref h17, .ref h18, .ref h19, .int 0, .ref h20, .ref h21, .int 0, .ref h22, .ref h23, .ref h24, .ref h25, .ref h26, .int 0, .ref h27, .ref h28, .ref h29, .int 0, .ref h30, .ref h31, .ref h32, .int 0, .int 0, .ref h33, .ref h34, .ref h35, .int 0, .long 0, .long 0, .ref h36, .ref h37, .ref h38, .ref h39, .ref h40, .ref h41, .ref h42, .ref h43, .ref h44, .ref h45, .int 0, .int 0, .ref h46, .ref h47, .ref h48, .ref h49, .ref h50, .ref h51, .ref h52, .ref h53, .ref h54, .int 0, .int 0, .int 0, .int 0, .long 0, .ref h55, .ref h56, .ref h57, .int 0, .int 0, .long 0]))]) (fun _ => rfl) (fun qs3 H locs hT => ?_)
  refine lv_iload (pc := 270) hx hb dL_law_270 (lv_at hl 1 rfl) ?_
  refine zb_icmp_eq_t (pc := 272) (tgt := 277) hx hb dL_law_272 (by decide) (by decide) ?_
  refine lv_iload (pc := 277) hx hb dL_law_277 (lv_at hl 1 rfl) ?_
  refine zb_if_ne_t (pc := 279) (tgt := 294) hx hb dL_law_279 (by decide) (by decide) ?_
  refine lv_goto (pc := 294) (tgt := 1719) hx hb dL_law_294 (by decide) ?_
  exact q_end hx hb hr hlk hX hbl hT (lv_sub hl [2, 6] rfl) (Nat.le_of_ble_eq_true rfl) (Nat.le_of_ble_eq_true rfl)
set_option maxHeartbeats 4000000 in
set_option maxRecDepth 100000 in
theorem q_text_1_big {p : Program} {l : Launch} {e : Env} {s : State} {m : MethodId} {below : List Frame} {meth : Method} {c : Code} {H : Heap} {locs : List Loc} {ls : Array Slot} {G : va_G} {cy : Nat → ClassId} {b : Nat} {xs : Nat → Int32} (C : zC l G cy p s m meth c b 6 xs) (h0 h1 h2 h3 h4 h5 h6 h7 h8 h9 h10 h11 h12 h13 h14 h15 h16 h17 h18 h19 h20 h21 h22 h23 h24 h25 h26 h27 h28 h29 h30 h31 h32 h33 h34 h35 h36 h37 h38 h39 h40 h41 h42 h43 h44 h45 h46 h47 h48 h49 h50 h51 h52 h53 h54 h55 h56 h57 : Nat) (j : Nat) (hloj : 0 ≤ j) (hhij : j < 6) (hs1 : xs 1 = (nI j)) (hb1 : ¬ ((xs 2) : Int32) < 0) (hb2 : (0 : Int32) < (xs 2)) (hT : zT G (fun q => s.heap.size ≤ q) s.heap H locs [(h0, .inr (11, [.ref h6, .ref h7, .ref h1, .ref h8, .ref h9, .ref h10, .ref h11, .ref h12, .ref h13, .ref h14, .ref h2, .int (-1), .int (-1), .int (-1), .int (-1)])), (h1, .inr (9, [.int 0, .ref h15, .int 0, .int 0, .int 0, .int 0])), (h2, .inl (cy 0, 3, .inl (kc 0))), (h3, .inr (12, [.int 0, .ref h4, .int 0, .int 0, .int 0, .int (-1), .int 0, .int 0, .ref h16, .ref h17, .ref h18, .ref h19, .int 0, .ref h20, .ref h21, .int 0, .ref h22, .ref h23, .ref h24, .ref h25, .ref h26, .int 0, .ref h27, .ref h28, .ref h29, .int 0, .ref h30, .ref h31, .ref h32, .int 0, .int 0, .ref h33, .ref h34, .ref h35, .int 0, .long 0, .long 0, .ref h36, .ref h37, .ref h38, .ref h39, .ref h40, .ref h41, .ref h42, .ref h43, .ref h44, .ref h45, .int 0, .int 0, .ref h46, .ref h47, .ref h48, .ref h49, .ref h50, .ref h51, .ref h52, .ref h53, .ref h54, .int 0, .int 0, .int 0, .int 0, .long 0, .ref h55, .ref h56, .ref h57, .int 0, .int 0, .long 0])), (h4, .inl (cy 0, 3, .inl (kc 0)))]) (hl : lv_has ls 8 [(0, .ref b), (1, .ref h0), (2, .ref h3), (3, .ref h5), (4, .int 0)]) : W p l e (zR 1000 600002 7302232) s m #[Value.ref b] below meth c H locs 476 284354 (lw_Z below #[Value.ref b] s) (F0 m 229 ls []) := by
  obtain ⟨hl0, hx, hb, hr, hml, hown, hts, hX, hbl, hlk, hK, hE, q1, v1, q2, v2, hS⟩ := C
  have hA : ∀ q : Nat, s.heap.size ≤ q → (fun q => s.heap.size ≤ q) q := fun _ h => h
  have hbA : ¬ (fun q => s.heap.size ≤ q) b := Nat.not_le.mpr hbl
  refine lv_aload_n (pc := 229) hx hb dL_law_229 rfl (lv_at hl 1 rfl) ?_
  refine lv_aload_n (pc := 230) hx hb dL_law_230 rfl (lv_at hl 0 rfl) ?_
  refine lv_iload (pc := 231) hx hb dL_law_231 (lv_at hl 4 rfl) ?_
  refine lv_iconst (pc := 233) (v := 1) hx hb dL_law_233 (by decide) ?_
  refine z_iadd (pc := 234) (v := 1) hx hb dL_law_234 (by decide) ?_
  refine z_sld (pc := 235) (v := (nI j)) hx hb hX hbl hbA hT 1 rfl (by decide) hs1 dL_law_235 ?_
  refine lv_aload_n (pc := 236) hx hb dL_law_236 rfl (lv_at hl 0 rfl) ?_
  refine lv_iload (pc := 237) hx hb dL_law_237 (lv_at hl 4 rfl) ?_
  refine lv_iconst (pc := 239) (v := 2) hx hb dL_law_239 (by decide) ?_
  refine z_iadd (pc := 240) (v := 2) hx hb dL_law_240 (by decide) ?_
  refine z_sld (pc := 241) (v := (xs 2)) hx hb hX hbl hbA hT 2 rfl (by decide) rfl dL_law_241 ?_
  refine lv_aload_n (pc := 242) hx hb dL_law_242 rfl (lv_at hl 3 rfl) ?_
  refine z_eHI (pc := 243) zE_ok hE hx hb hml hown hts hK hA hT lkH_RL_90 ((k863_L_text l G cy hl0 h0 h1 h2 h5 h6 h7 h8 h9 h10 h11 h12 h13 h14 h15 (xs 2) j (by omega) (by omega) hb1 hb2).e) [0, 1, 2] [3, 4] rfl rfl rfl rfl rfl (by decide) rfl hl.1 rfl (Nat.le_of_ble_eq_true rfl) dL_law_243 ⟨Nat.le_of_ble_eq_true rfl, Nat.le_of_ble_eq_true rfl⟩ (fun _ => [(h3, .inr (12, [.int 0, .ref h4, .int 0, .int 0, .int 0, .int (-1), .int 0, .int 0, .ref h16, .ref h17, .ref h18, .ref h19, .int 0, .ref h20, .ref h21, .int 0, .ref h22, .ref h23, .ref h24, .ref h25, .ref h26, .int 0, .ref h27, .ref h28, .ref h29, .int 0, .ref h30, .ref h31, .ref h32, .int 0, .int 0, .ref h33, .ref h34, .ref h35, .int 0, .long 0, .long 0, .ref h36, .ref h37, .ref h38, .ref h39, .ref h40, .ref h41, .ref h42, .ref h43, .ref h44, .ref h45, .int 0, .int 0, .ref h46, .ref h47, .ref h48, .ref h49, .ref h50, .ref h51, .ref h52, .ref h53, .ref h54, .int 0, .int 0, .int 0, .int 0, .long 0, .ref h55, .ref h56, .ref h57, .int 0, .int 0, .long 0])), (h4, .inl (cy 0, 3, .inl (kc 0)))]) (fun _ => rfl) (fun qs1 H locs hT => ?_)
  refine lv_istore (pc := 246) (lv' := [(5, .int 2), (0, .ref b), (1, .ref h0), (2, .ref h3), (3, .ref h5), (4, .int 0)]) hx hb dL_law_246 hl (by decide) rfl (fun ls hl => ?_)
  refine lv_aload_n (pc := 248) hx hb dL_law_248 rfl (lv_at hl 3 rfl) ?_
  refine lv_aload_n (pc := 249) hx hb dL_law_249 rfl (lv_at hl 1 rfl) ?_
  refine lv_iload (pc := 250) hx hb dL_law_250 (lv_at hl 5 rfl) ?_
  refine lv_iconst (pc := 252) (v := 1) hx hb dL_law_252 (by decide) ?_
  refine z_iadd (pc := 253) (v := 1) hx hb dL_law_253 (by decide) ?_
  refine z_sld (pc := 254) (v := (nI j)) hx hb hX hbl hbA hT 1 rfl (by decide) hs1 dL_law_254 ?_
  refine lv_aload_n (pc := 255) hx hb dL_law_255 rfl (lv_at hl 1 rfl) ?_
  refine lv_iload (pc := 256) hx hb dL_law_256 (lv_at hl 5 rfl) ?_
  refine lv_iconst (pc := 258) (v := 2) hx hb dL_law_258 (by decide) ?_
  refine z_iadd (pc := 259) (v := 2) hx hb dL_law_259 (by decide) ?_
  refine z_sld (pc := 260) (v := (xs 2)) hx hb hX hbl hbA hT 2 rfl (by decide) rfl dL_law_260 ?_
  refine z_cVI (pc := 261) hx hb hml hown hts hK hA hT lkV_RL_95 (k710_X12_text l G cy h3 h4 h16 h17 h18 h19 h20 h21 h22 h23 h24 h25 h26 h27 h28 h29 h30 h31 h32 h33 h34 h35 h36 h37 h38 h39 h40 h41 h42 h43 h44 h45 h46 h47 h48 h49 h50 h51 h52 h53 h54 h55 h56 h57 (xs 2) j (by omega) (by omega) hb1 hb2) [0, 1] [] rfl rfl rfl rfl rfl 0 rfl rfl (by decide) rfl hl.1 rfl (Nat.le_of_ble_eq_true rfl) dL_law_261 ⟨Nat.le_of_ble_eq_true rfl, Nat.le_of_ble_eq_true rfl⟩ (fun _ => [(h3, .inr (12, [.int 2, .ref h4, .int 0, .int 0, .int 0, .int (-1), .int 0, .int 0, .ref h16, .ref h17, .ref h18, .ref h19, .int 0, .ref h20, .ref h21, .int 0, .ref h22, .ref h23, .ref h24, .ref h25, .ref h26, .int 0, .ref h27, .ref h28, .ref h29, .int 0, .ref h30, .ref h31, .ref h32, .int 0, .int 0, .ref h33, .ref h34, .ref h35, .int 0, .long 0, .long 0, .ref h36, .ref h37, .ref h38, .ref h39, .ref h40, .ref h41, .ref h42, .ref h43, .ref h44, .ref h45, .int 0, .int 0, .ref h46, .ref h47, .ref h48, .ref h49, .ref h50, .ref h51, .ref h52, .ref h53, .ref h54, .int 0, .int 0, .int 0, .int 0, .long 0, .ref h55, .ref h56, .ref h57, .int 0, .int 0, .long 0]))]) (fun _ => rfl) (fun qs2 H locs hT => ?_)
  refine lv_istore (pc := 264) (lv' := [(6, .int 0), (5, .int 2), (0, .ref b), (1, .ref h0), (2, .ref h3), (3, .ref h5), (4, .int 0)]) hx hb dL_law_264 hl (by decide) rfl (fun ls hl => ?_)
  refine lv_aload_n (pc := 266) hx hb dL_law_266 rfl (lv_at hl 4 rfl) ?_
  refine z_cVI (pc := 267) hx hb hml hown hts hK hA hT lkV_RL_96 (k1052_X12_thrown l G cy h3 h4 h16 h17 h18 h19 h20 h21 h22 h23 h24 h25 h26 h27 h28 h29 h30 h31 h32 h33 h34 h35 h36 h37 h38 h39 h40 h41 h42 h43 h44 h45 h46 h47 h48 h49 h50 h51 h52 h53 h54 h55 h56 h57) [0] [] rfl rfl rfl rfl rfl 0 rfl rfl (by decide) rfl hl.1 rfl (Nat.le_of_ble_eq_true rfl) dL_law_267 ⟨Nat.le_of_ble_eq_true rfl, Nat.le_of_ble_eq_true rfl⟩ (fun _ => [(h3, .inr (12, [.int 2, .ref h4, .int 0, .int 0, .int 0, .int (-1), .int 0, .int 0, .ref h16, .ref h17, .ref h18, .ref h19, .int 0, .ref h20, .ref h21, .int 0, .ref h22, .ref h23, .ref h24, .ref h25, .ref h26, .int 0, .ref h27, .ref h28, .ref h29, .int 0, .ref h30, .ref h31, .ref h32, .int 0, .int 0, .ref h33, .ref h34, .ref h35, .int 0, .long 0, .long 0, .ref h36, .ref h37, .ref h38, .ref h39, .ref h40, .ref h41, .ref h42, .ref h43, .ref h44, .ref h45, .int 0, .int 0, .ref h46, .ref h47, .ref h48, .ref h49, .ref h50, .ref h51, .ref h52, .ref h53, .ref h54, .int 0, .int 0, .int 0, .int 0, .long 0, .ref h55, .ref h56, .ref h57, .int 0, .int 0, .long 0]))]) (fun _ => rfl) (fun qs3 H locs hT => ?_)
  refine lv_iload (pc := 270) hx hb dL_law_270 (lv_at hl 1 rfl) ?_
  refine zb_icmp_eq_t (pc := 272) (tgt := 277) hx hb dL_law_272 (by decide) (by decide) ?_
  refine lv_iload (pc := 277) hx hb dL_law_277 (lv_at hl 1 rfl) ?_
  refine zb_if_ne_t (pc := 279) (tgt := 294) hx hb dL_law_279 (by decide) (by decide) ?_
  refine lv_goto (pc := 294) (tgt := 1719) hx hb dL_law_294 (by decide) ?_
  exact q_end hx hb hr hlk hX hbl hT (lv_sub hl [2, 6] rfl) (Nat.le_of_ble_eq_true rfl) (Nat.le_of_ble_eq_true rfl)
set_option maxHeartbeats 4000000 in
set_option maxRecDepth 100000 in
theorem q_words_0_neg {p : Program} {l : Launch} {e : Env} {s : State} {m : MethodId} {below : List Frame} {meth : Method} {c : Code} {H : Heap} {locs : List Loc} {ls : Array Slot} {G : va_G} {cy : Nat → ClassId} {b : Nat} {xs : Nat → Int32} (C : zC l G cy p s m meth c b 6 xs) (h0 h1 h2 h3 h4 h5 h6 h7 h8 h9 h10 h11 h12 h13 h14 h15 h16 h17 h18 h19 h20 h21 h22 h23 h24 h25 h26 h27 h28 h29 h30 h31 h32 h33 h34 h35 h36 h37 h38 h39 h40 h41 h42 h43 h44 h45 h46 h47 h48 h49 h50 h51 h52 h53 h54 h55 h56 : Nat) (hneg : ((xs 1) : Int32) < 0) (hT : zT G (fun q => s.heap.size ≤ q) s.heap H locs [(h0, .inr (11, [.ref h5, .ref h6, .ref h7, .ref h8, .ref h9, .ref h10, .ref h11, .ref h12, .ref h13, .ref h14, .ref h1, .int (-1), .int (-1), .int (-1), .int (-1)])), (h1, .inl (cy 0, 3, .inl (kc 0))), (h2, .inr (12, [.int 0, .ref h3, .int 0, .int 0, .int 0, .int (-1), .int 0, .int 0, .ref h15, .ref h16, .ref h17, .ref h18, .int 0, .ref h19, .ref h20, .int 0, .ref h21, .ref h22, .ref h23, .ref h24, .ref h25, .int 0, .ref h26, .ref h27, .ref h28, .int 0, .ref h29, .ref h30, .ref h31, .int 0, .int 0, .ref h32, .ref h33, .ref h34, .int 0, .long 0, .long 0, .ref h35, .ref h36, .ref h37, .ref h38, .ref h39, .ref h40, .ref h41, .ref h42, .ref h43, .ref h44, .int 0, .int 0, .ref h45, .ref h46, .ref h47, .ref h48, .ref h49, .ref h50, .ref h51, .ref h52, .ref h53, .int 0, .int 0, .int 0, .int 0, .long 0, .ref h54, .ref h55, .ref h56, .int 0, .int 0, .long 0])), (h3, .inl (cy 0, 3, .inl (kc 0)))]) (hl : lv_has ls 8 [(0, .ref b), (1, .ref h0), (2, .ref h2), (3, .ref h4), (4, .int 0)]) : W p l e (zR 1000 600002 7302232) s m #[Value.ref b] below meth c H locs 476 284354 (lw_Z below #[Value.ref b] s) (F0 m 971 ls []) := by
  obtain ⟨hl0, hx, hb, hr, hml, hown, hts, hX, hbl, hlk, hK, hE, q1, v1, q2, v2, hS⟩ := C
  have hA : ∀ q : Nat, s.heap.size ≤ q → (fun q => s.heap.size ≤ q) q := fun _ h => h
  have hbA : ¬ (fun q => s.heap.size ≤ q) b := Nat.not_le.mpr hbl
  refine lv_aload_n (pc := 971) hx hb dL_law_971 rfl (lv_at hl 1 rfl) ?_
  refine lv_aload_n (pc := 972) hx hb dL_law_972 rfl (lv_at hl 0 rfl) ?_
  refine lv_iload (pc := 973) hx hb dL_law_973 (lv_at hl 4 rfl) ?_
  refine lv_iconst (pc := 975) (v := 1) hx hb dL_law_975 (by decide) ?_
  refine z_iadd (pc := 976) (v := 1) hx hb dL_law_976 (by decide) ?_
  refine z_sld (pc := 977) (v := (xs 1)) hx hb hX hbl hbA hT 1 rfl (by decide) rfl dL_law_977 ?_
  refine lv_aload_n (pc := 978) hx hb dL_law_978 rfl (lv_at hl 0 rfl) ?_
  refine lv_iload (pc := 979) hx hb dL_law_979 (lv_at hl 4 rfl) ?_
  refine lv_iconst (pc := 981) (v := 2) hx hb dL_law_981 (by decide) ?_
  refine z_iadd (pc := 982) (v := 2) hx hb dL_law_982 (by decide) ?_
  refine z_sld (pc := 983) (v := (xs 2)) hx hb hX hbl hbA hT 2 rfl (by decide) rfl dL_law_983 ?_
  refine lv_aload_n (pc := 984) hx hb dL_law_984 rfl (lv_at hl 3 rfl) ?_
  refine z_eHI (pc := 985) zE_ok hE hx hb hml hown hts hK hA hT lkH_RL_138 ((k864_L_words l G cy hl0 h0 h1 h4 h5 h6 h7 h8 h9 h10 h11 h12 h13 h14 (xs 1) (xs 2) hneg).e) [0, 1] [2, 3] rfl rfl rfl rfl rfl (by decide) rfl hl.1 rfl (Nat.le_of_ble_eq_true rfl) dL_law_985 ⟨Nat.le_of_ble_eq_true rfl, Nat.le_of_ble_eq_true rfl⟩ (fun _ => [(h2, .inr (12, [.int 0, .ref h3, .int 0, .int 0, .int 0, .int (-1), .int 0, .int 0, .ref h15, .ref h16, .ref h17, .ref h18, .int 0, .ref h19, .ref h20, .int 0, .ref h21, .ref h22, .ref h23, .ref h24, .ref h25, .int 0, .ref h26, .ref h27, .ref h28, .int 0, .ref h29, .ref h30, .ref h31, .int 0, .int 0, .ref h32, .ref h33, .ref h34, .int 0, .long 0, .long 0, .ref h35, .ref h36, .ref h37, .ref h38, .ref h39, .ref h40, .ref h41, .ref h42, .ref h43, .ref h44, .int 0, .int 0, .ref h45, .ref h46, .ref h47, .ref h48, .ref h49, .ref h50, .ref h51, .ref h52, .ref h53, .int 0, .int 0, .int 0, .int 0, .long 0, .ref h54, .ref h55, .ref h56, .int 0, .int 0, .long 0])), (h3, .inl (cy 0, 3, .inl (kc 0)))]) (fun _ => rfl) (fun qs1 H locs hT => ?_)
  refine lv_istore (pc := 988) (lv' := [(5, .int 1), (0, .ref b), (1, .ref h0), (2, .ref h2), (3, .ref h4), (4, .int 0)]) hx hb dL_law_988 hl (by decide) rfl (fun ls hl => ?_)
  refine lv_aload_n (pc := 990) hx hb dL_law_990 rfl (lv_at hl 3 rfl) ?_
  refine lv_aload_n (pc := 991) hx hb dL_law_991 rfl (lv_at hl 1 rfl) ?_
  refine lv_iload (pc := 992) hx hb dL_law_992 (lv_at hl 5 rfl) ?_
  refine lv_iconst (pc := 994) (v := 1) hx hb dL_law_994 (by decide) ?_
  refine z_iadd (pc := 995) (v := 1) hx hb dL_law_995 (by decide) ?_
  refine z_sld (pc := 996) (v := (xs 1)) hx hb hX hbl hbA hT 1 rfl (by decide) rfl dL_law_996 ?_
  refine lv_aload_n (pc := 997) hx hb dL_law_997 rfl (lv_at hl 1 rfl) ?_
  refine lv_iload (pc := 998) hx hb dL_law_998 (lv_at hl 5 rfl) ?_
  refine lv_iconst (pc := 1000) (v := 2) hx hb dL_law_1000 (by decide) ?_
  refine z_iadd (pc := 1001) (v := 2) hx hb dL_law_1001 (by decide) ?_
  refine z_sld (pc := 1002) (v := (xs 2)) hx hb hX hbl hbA hT 2 rfl (by decide) rfl dL_law_1002 ?_
  refine z_cVI (pc := 1003) hx hb hml hown hts hK hA hT lkV_RL_140 (k711_X12_words l G cy h2 h3 h15 h16 h17 h18 h19 h20 h21 h22 h23 h24 h25 h26 h27 h28 h29 h30 h31 h32 h33 h34 h35 h36 h37 h38 h39 h40 h41 h42 h43 h44 h45 h46 h47 h48 h49 h50 h51 h52 h53 h54 h55 h56 (xs 1) (xs 2) hneg) [0, 1] [] rfl rfl rfl rfl rfl 0 rfl rfl (by decide) rfl hl.1 rfl (Nat.le_of_ble_eq_true rfl) dL_law_1003 ⟨Nat.le_of_ble_eq_true rfl, Nat.le_of_ble_eq_true rfl⟩ (fun _ => [(h2, .inr (12, [.int 1, .ref h3, .int 0, .int 0, .int 0, .int (-1), .int 0, .int 0, .ref h15, .ref h16, .ref h17, .ref h18, .int 0, .ref h19, .ref h20, .int 0, .ref h21, .ref h22, .ref h23, .ref h24, .ref h25, .int 0, .ref h26, .ref h27, .ref h28, .int 0, .ref h29, .ref h30, .ref h31, .int 0, .int 0, .ref h32, .ref h33, .ref h34, .int 0, .long 0, .long 0, .ref h35, .ref h36, .ref h37, .ref h38, .ref h39, .ref h40, .ref h41, .ref h42, .ref h43, .ref h44, .int 0, .int 0, .ref h45, .ref h46, .ref h47, .ref h48, .ref h49, .ref h50, .ref h51, .ref h52, .ref h53, .int 0, .int 0, .int 0, .int 0, .long 0, .ref h54, .ref h55, .ref h56, .int 0, .int 0, .long 0]))]) (fun _ => rfl) (fun qs2 H locs hT => ?_)
  refine lv_istore (pc := 1006) (lv' := [(6, .int 0), (5, .int 1), (0, .ref b), (1, .ref h0), (2, .ref h2), (3, .ref h4), (4, .int 0)]) hx hb dL_law_1006 hl (by decide) rfl (fun ls hl => ?_)
  refine lv_aload_n (pc := 1008) hx hb dL_law_1008 rfl (lv_at hl 4 rfl) ?_
  refine z_cVI (pc := 1009) hx hb hml hown hts hK hA hT lkV_RL_96 (k1051_X12_thrown l G cy h2 h3 h15 h16 h17 h18 h19 h20 h21 h22 h23 h24 h25 h26 h27 h28 h29 h30 h31 h32 h33 h34 h35 h36 h37 h38 h39 h40 h41 h42 h43 h44 h45 h46 h47 h48 h49 h50 h51 h52 h53 h54 h55 h56) [0] [] rfl rfl rfl rfl rfl 0 rfl rfl (by decide) rfl hl.1 rfl (Nat.le_of_ble_eq_true rfl) dL_law_1009 ⟨Nat.le_of_ble_eq_true rfl, Nat.le_of_ble_eq_true rfl⟩ (fun _ => [(h2, .inr (12, [.int 1, .ref h3, .int 0, .int 0, .int 0, .int (-1), .int 0, .int 0, .ref h15, .ref h16, .ref h17, .ref h18, .int 0, .ref h19, .ref h20, .int 0, .ref h21, .ref h22, .ref h23, .ref h24, .ref h25, .int 0, .ref h26, .ref h27, .ref h28, .int 0, .ref h29, .ref h30, .ref h31, .int 0, .int 0, .ref h32, .ref h33, .ref h34, .int 0, .long 0, .long 0, .ref h35, .ref h36, .ref h37, .ref h38, .ref h39, .ref h40, .ref h41, .ref h42, .ref h43, .ref h44, .int 0, .int 0, .ref h45, .ref h46, .ref h47, .ref h48, .ref h49, .ref h50, .ref h51, .ref h52, .ref h53, .int 0, .int 0, .int 0, .int 0, .long 0, .ref h54, .ref h55, .ref h56, .int 0, .int 0, .long 0]))]) (fun _ => rfl) (fun qs3 H locs hT => ?_)
  refine lv_iload (pc := 1012) hx hb dL_law_1012 (lv_at hl 1 rfl) ?_
  refine zb_icmp_eq_t (pc := 1014) (tgt := 1019) hx hb dL_law_1014 (by decide) (by decide) ?_
  refine lv_iload (pc := 1019) hx hb dL_law_1019 (lv_at hl 1 rfl) ?_
  refine zb_if_ne_t (pc := 1021) (tgt := 1036) hx hb dL_law_1021 (by decide) (by decide) ?_
  refine lv_goto (pc := 1036) (tgt := 1719) hx hb dL_law_1036 (by decide) ?_
  exact q_end hx hb hr hlk hX hbl hT (lv_sub hl [2, 6] rfl) (Nat.le_of_ble_eq_true rfl) (Nat.le_of_ble_eq_true rfl)
set_option maxHeartbeats 4000000 in
set_option maxRecDepth 100000 in
theorem q_words_0_big {p : Program} {l : Launch} {e : Env} {s : State} {m : MethodId} {below : List Frame} {meth : Method} {c : Code} {H : Heap} {locs : List Loc} {ls : Array Slot} {G : va_G} {cy : Nat → ClassId} {b : Nat} {xs : Nat → Int32} (C : zC l G cy p s m meth c b 6 xs) (h0 h1 h2 h3 h4 h5 h6 h7 h8 h9 h10 h11 h12 h13 h14 h15 h16 h17 h18 h19 h20 h21 h22 h23 h24 h25 h26 h27 h28 h29 h30 h31 h32 h33 h34 h35 h36 h37 h38 h39 h40 h41 h42 h43 h44 h45 h46 h47 h48 h49 h50 h51 h52 h53 h54 h55 h56 : Nat) (hb1 : ¬ ((xs 1) : Int32) < 0) (hb2 : ¬ ((xs 1) : Int32) < 6) (hb3 : (5 : Int32) < (xs 1)) (hT : zT G (fun q => s.heap.size ≤ q) s.heap H locs [(h0, .inr (11, [.ref h5, .ref h6, .ref h7, .ref h8, .ref h9, .ref h10, .ref h11, .ref h12, .ref h13, .ref h14, .ref h1, .int (-1), .int (-1), .int (-1), .int (-1)])), (h1, .inl (cy 0, 3, .inl (kc 0))), (h2, .inr (12, [.int 0, .ref h3, .int 0, .int 0, .int 0, .int (-1), .int 0, .int 0, .ref h15, .ref h16, .ref h17, .ref h18, .int 0, .ref h19, .ref h20, .int 0, .ref h21, .ref h22, .ref h23, .ref h24, .ref h25, .int 0, .ref h26, .ref h27, .ref h28, .int 0, .ref h29, .ref h30, .ref h31, .int 0, .int 0, .ref h32, .ref h33, .ref h34, .int 0, .long 0, .long 0, .ref h35, .ref h36, .ref h37, .ref h38, .ref h39, .ref h40, .ref h41, .ref h42, .ref h43, .ref h44, .int 0, .int 0, .ref h45, .ref h46, .ref h47, .ref h48, .ref h49, .ref h50, .ref h51, .ref h52, .ref h53, .int 0, .int 0, .int 0, .int 0, .long 0, .ref h54, .ref h55, .ref h56, .int 0, .int 0, .long 0])), (h3, .inl (cy 0, 3, .inl (kc 0)))]) (hl : lv_has ls 8 [(0, .ref b), (1, .ref h0), (2, .ref h2), (3, .ref h4), (4, .int 0)]) : W p l e (zR 1000 600002 7302232) s m #[Value.ref b] below meth c H locs 476 284354 (lw_Z below #[Value.ref b] s) (F0 m 971 ls []) := by
  obtain ⟨hl0, hx, hb, hr, hml, hown, hts, hX, hbl, hlk, hK, hE, q1, v1, q2, v2, hS⟩ := C
  have hA : ∀ q : Nat, s.heap.size ≤ q → (fun q => s.heap.size ≤ q) q := fun _ h => h
  have hbA : ¬ (fun q => s.heap.size ≤ q) b := Nat.not_le.mpr hbl
  refine lv_aload_n (pc := 971) hx hb dL_law_971 rfl (lv_at hl 1 rfl) ?_
  refine lv_aload_n (pc := 972) hx hb dL_law_972 rfl (lv_at hl 0 rfl) ?_
  refine lv_iload (pc := 973) hx hb dL_law_973 (lv_at hl 4 rfl) ?_
  refine lv_iconst (pc := 975) (v := 1) hx hb dL_law_975 (by decide) ?_
  refine z_iadd (pc := 976) (v := 1) hx hb dL_law_976 (by decide) ?_
  refine z_sld (pc := 977) (v := (xs 1)) hx hb hX hbl hbA hT 1 rfl (by decide) rfl dL_law_977 ?_
  refine lv_aload_n (pc := 978) hx hb dL_law_978 rfl (lv_at hl 0 rfl) ?_
  refine lv_iload (pc := 979) hx hb dL_law_979 (lv_at hl 4 rfl) ?_
  refine lv_iconst (pc := 981) (v := 2) hx hb dL_law_981 (by decide) ?_
  refine z_iadd (pc := 982) (v := 2) hx hb dL_law_982 (by decide) ?_
  refine z_sld (pc := 983) (v := (xs 2)) hx hb hX hbl hbA hT 2 rfl (by decide) rfl dL_law_983 ?_
  refine lv_aload_n (pc := 984) hx hb dL_law_984 rfl (lv_at hl 3 rfl) ?_
  refine z_eHI (pc := 985) zE_ok hE hx hb hml hown hts hK hA hT lkH_RL_138 ((k865_L_words l G cy hl0 h0 h1 h4 h5 h6 h7 h8 h9 h10 h11 h12 h13 h14 (xs 1) (xs 2) hb1 hb2).e) [0, 1] [2, 3] rfl rfl rfl rfl rfl (by decide) rfl hl.1 rfl (Nat.le_of_ble_eq_true rfl) dL_law_985 ⟨Nat.le_of_ble_eq_true rfl, Nat.le_of_ble_eq_true rfl⟩ (fun _ => [(h2, .inr (12, [.int 0, .ref h3, .int 0, .int 0, .int 0, .int (-1), .int 0, .int 0, .ref h15, .ref h16, .ref h17, .ref h18, .int 0, .ref h19, .ref h20, .int 0, .ref h21, .ref h22, .ref h23, .ref h24, .ref h25, .int 0, .ref h26, .ref h27, .ref h28, .int 0, .ref h29, .ref h30, .ref h31, .int 0, .int 0, .ref h32, .ref h33, .ref h34, .int 0, .long 0, .long 0, .ref h35, .ref h36, .ref h37, .ref h38, .ref h39, .ref h40, .ref h41, .ref h42, .ref h43, .ref h44, .int 0, .int 0, .ref h45, .ref h46, .ref h47, .ref h48, .ref h49, .ref h50, .ref h51, .ref h52, .ref h53, .int 0, .int 0, .int 0, .int 0, .long 0, .ref h54, .ref h55, .ref h56, .int 0, .int 0, .long 0])), (h3, .inl (cy 0, 3, .inl (kc 0)))]) (fun _ => rfl) (fun qs1 H locs hT => ?_)
  refine lv_istore (pc := 988) (lv' := [(5, .int 1), (0, .ref b), (1, .ref h0), (2, .ref h2), (3, .ref h4), (4, .int 0)]) hx hb dL_law_988 hl (by decide) rfl (fun ls hl => ?_)
  refine lv_aload_n (pc := 990) hx hb dL_law_990 rfl (lv_at hl 3 rfl) ?_
  refine lv_aload_n (pc := 991) hx hb dL_law_991 rfl (lv_at hl 1 rfl) ?_
  refine lv_iload (pc := 992) hx hb dL_law_992 (lv_at hl 5 rfl) ?_
  refine lv_iconst (pc := 994) (v := 1) hx hb dL_law_994 (by decide) ?_
  refine z_iadd (pc := 995) (v := 1) hx hb dL_law_995 (by decide) ?_
  refine z_sld (pc := 996) (v := (xs 1)) hx hb hX hbl hbA hT 1 rfl (by decide) rfl dL_law_996 ?_
  refine lv_aload_n (pc := 997) hx hb dL_law_997 rfl (lv_at hl 1 rfl) ?_
  refine lv_iload (pc := 998) hx hb dL_law_998 (lv_at hl 5 rfl) ?_
  refine lv_iconst (pc := 1000) (v := 2) hx hb dL_law_1000 (by decide) ?_
  refine z_iadd (pc := 1001) (v := 2) hx hb dL_law_1001 (by decide) ?_
  refine z_sld (pc := 1002) (v := (xs 2)) hx hb hX hbl hbA hT 2 rfl (by decide) rfl dL_law_1002 ?_
  refine z_cVI (pc := 1003) hx hb hml hown hts hK hA hT lkV_RL_140 (k712_X12_words l G cy h2 h3 h15 h16 h17 h18 h19 h20 h21 h22 h23 h24 h25 h26 h27 h28 h29 h30 h31 h32 h33 h34 h35 h36 h37 h38 h39 h40 h41 h42 h43 h44 h45 h46 h47 h48 h49 h50 h51 h52 h53 h54 h55 h56 (xs 1) (xs 2) hb1 hb3) [0, 1] [] rfl rfl rfl rfl rfl 0 rfl rfl (by decide) rfl hl.1 rfl (Nat.le_of_ble_eq_true rfl) dL_law_1003 ⟨Nat.le_of_ble_eq_true rfl, Nat.le_of_ble_eq_true rfl⟩ (fun _ => [(h2, .inr (12, [.int 1, .ref h3, .int 0, .int 0, .int 0, .int (-1), .int 0, .int 0, .ref h15, .ref h16, .ref h17, .ref h18, .int 0, .ref h19, .ref h20, .int 0, .ref h21, .ref h22, .ref h23, .ref h24, .ref h25, .int 0, .ref h26, .ref h27, .ref h28, .int 0, .ref h29, .ref h30, .ref h31, .int 0, .int 0, .ref h32, .ref h33, .ref h34, .int 0, .long 0, .long 0, .ref h35, .ref h36, .ref h37, .ref h38, .ref h39, .ref h40, .ref h41, .ref h42, .ref h43, .ref h44, .int 0, .int 0, .ref h45, .ref h46, .ref h47, .ref h48, .ref h49, .ref h50, .ref h51, .ref h52, .ref h53, .int 0, .int 0, .int 0, .int 0, .long 0, .ref h54, .ref h55, .ref h56, .int 0, .int 0, .long 0]))]) (fun _ => rfl) (fun qs2 H locs hT => ?_)
  refine lv_istore (pc := 1006) (lv' := [(6, .int 0), (5, .int 1), (0, .ref b), (1, .ref h0), (2, .ref h2), (3, .ref h4), (4, .int 0)]) hx hb dL_law_1006 hl (by decide) rfl (fun ls hl => ?_)
  refine lv_aload_n (pc := 1008) hx hb dL_law_1008 rfl (lv_at hl 4 rfl) ?_
  refine z_cVI (pc := 1009) hx hb hml hown hts hK hA hT lkV_RL_96 (k1051_X12_thrown l G cy h2 h3 h15 h16 h17 h18 h19 h20 h21 h22 h23 h24 h25 h26 h27 h28 h29 h30 h31 h32 h33 h34 h35 h36 h37 h38 h39 h40 h41 h42 h43 h44 h45 h46 h47 h48 h49 h50 h51 h52 h53 h54 h55 h56) [0] [] rfl rfl rfl rfl rfl 0 rfl rfl (by decide) rfl hl.1 rfl (Nat.le_of_ble_eq_true rfl) dL_law_1009 ⟨Nat.le_of_ble_eq_true rfl, Nat.le_of_ble_eq_true rfl⟩ (fun _ => [(h2, .inr (12, [.int 1, .ref h3, .int 0, .int 0, .int 0, .int (-1), .int 0, .int 0, .ref h15, .ref h16, .ref h17, .ref h18, .int 0, .ref h19, .ref h20, .int 0, .ref h21, .ref h22, .ref h23, .ref h24, .ref h25, .int 0, .ref h26, .ref h27, .ref h28, .int 0, .ref h29, .ref h30, .ref h31, .int 0, .int 0, .ref h32, .ref h33, .ref h34, .int 0, .long 0, .long 0, .ref h35, .ref h36, .ref h37, .ref h38, .ref h39, .ref h40, .ref h41, .ref h42, .ref h43, .ref h44, .int 0, .int 0, .ref h45, .ref h46, .ref h47, .ref h48, .ref h49, .ref h50, .ref h51, .ref h52, .ref h53, .int 0, .int 0, .int 0, .int 0, .long 0, .ref h54, .ref h55, .ref h56, .int 0, .int 0, .long 0]))]) (fun _ => rfl) (fun qs3 H locs hT => ?_)
  refine lv_iload (pc := 1012) hx hb dL_law_1012 (lv_at hl 1 rfl) ?_
  refine zb_icmp_eq_t (pc := 1014) (tgt := 1019) hx hb dL_law_1014 (by decide) (by decide) ?_
  refine lv_iload (pc := 1019) hx hb dL_law_1019 (lv_at hl 1 rfl) ?_
  refine zb_if_ne_t (pc := 1021) (tgt := 1036) hx hb dL_law_1021 (by decide) (by decide) ?_
  refine lv_goto (pc := 1036) (tgt := 1719) hx hb dL_law_1036 (by decide) ?_
  exact q_end hx hb hr hlk hX hbl hT (lv_sub hl [2, 6] rfl) (Nat.le_of_ble_eq_true rfl) (Nat.le_of_ble_eq_true rfl)
set_option maxHeartbeats 4000000 in
set_option maxRecDepth 100000 in
theorem q_words_1_neg {p : Program} {l : Launch} {e : Env} {s : State} {m : MethodId} {below : List Frame} {meth : Method} {c : Code} {H : Heap} {locs : List Loc} {ls : Array Slot} {G : va_G} {cy : Nat → ClassId} {b : Nat} {xs : Nat → Int32} (C : zC l G cy p s m meth c b 6 xs) (h0 h1 h2 h3 h4 h5 h6 h7 h8 h9 h10 h11 h12 h13 h14 h15 h16 h17 h18 h19 h20 h21 h22 h23 h24 h25 h26 h27 h28 h29 h30 h31 h32 h33 h34 h35 h36 h37 h38 h39 h40 h41 h42 h43 h44 h45 h46 h47 h48 h49 h50 h51 h52 h53 h54 h55 h56 : Nat) (j : Nat) (hloj : 0 ≤ j) (hhij : j < 6) (hs1 : xs 1 = (nI j)) (hneg : ((xs 2) : Int32) < 0) (hT : zT G (fun q => s.heap.size ≤ q) s.heap H locs [(h0, .inr (11, [.ref h5, .ref h6, .ref h7, .ref h8, .ref h9, .ref h10, .ref h11, .ref h12, .ref h13, .ref h14, .ref h1, .int (-1), .int (-1), .int (-1), .int (-1)])), (h1, .inl (cy 0, 3, .inl (kc 0))), (h2, .inr (12, [.int 0, .ref h3, .int 0, .int 0, .int 0, .int (-1), .int 0, .int 0, .ref h15, .ref h16, .ref h17, .ref h18, .int 0, .ref h19, .ref h20, .int 0, .ref h21, .ref h22, .ref h23, .ref h24, .ref h25, .int 0, .ref h26, .ref h27, .ref h28, .int 0, .ref h29, .ref h30, .ref h31, .int 0, .int 0, .ref h32, .ref h33, .ref h34, .int 0, .long 0, .long 0, .ref h35, .ref h36, .ref h37, .ref h38, .ref h39, .ref h40, .ref h41, .ref h42, .ref h43, .ref h44, .int 0, .int 0, .ref h45, .ref h46, .ref h47, .ref h48, .ref h49, .ref h50, .ref h51, .ref h52, .ref h53, .int 0, .int 0, .int 0, .int 0, .long 0, .ref h54, .ref h55, .ref h56, .int 0, .int 0, .long 0])), (h3, .inl (cy 0, 3, .inl (kc 0)))]) (hl : lv_has ls 8 [(0, .ref b), (1, .ref h0), (2, .ref h2), (3, .ref h4), (4, .int 0)]) : W p l e (zR 1000 600002 7302232) s m #[Value.ref b] below meth c H locs 476 284354 (lw_Z below #[Value.ref b] s) (F0 m 971 ls []) := by
  obtain ⟨hl0, hx, hb, hr, hml, hown, hts, hX, hbl, hlk, hK, hE, q1, v1, q2, v2, hS⟩ := C
  have hA : ∀ q : Nat, s.heap.size ≤ q → (fun q => s.heap.size ≤ q) q := fun _ h => h
  have hbA : ¬ (fun q => s.heap.size ≤ q) b := Nat.not_le.mpr hbl
  refine lv_aload_n (pc := 971) hx hb dL_law_971 rfl (lv_at hl 1 rfl) ?_
  refine lv_aload_n (pc := 972) hx hb dL_law_972 rfl (lv_at hl 0 rfl) ?_
  refine lv_iload (pc := 973) hx hb dL_law_973 (lv_at hl 4 rfl) ?_
  refine lv_iconst (pc := 975) (v := 1) hx hb dL_law_975 (by decide) ?_
  refine z_iadd (pc := 976) (v := 1) hx hb dL_law_976 (by decide) ?_
  refine z_sld (pc := 977) (v := (nI j)) hx hb hX hbl hbA hT 1 rfl (by decide) hs1 dL_law_977 ?_
  refine lv_aload_n (pc := 978) hx hb dL_law_978 rfl (lv_at hl 0 rfl) ?_
  refine lv_iload (pc := 979) hx hb dL_law_979 (lv_at hl 4 rfl) ?_
  refine lv_iconst (pc := 981) (v := 2) hx hb dL_law_981 (by decide) ?_
  refine z_iadd (pc := 982) (v := 2) hx hb dL_law_982 (by decide) ?_
  refine z_sld (pc := 983) (v := (xs 2)) hx hb hX hbl hbA hT 2 rfl (by decide) rfl dL_law_983 ?_
  refine lv_aload_n (pc := 984) hx hb dL_law_984 rfl (lv_at hl 3 rfl) ?_
  refine z_eHI (pc := 985) zE_ok hE hx hb hml hown hts hK hA hT lkH_RL_138 ((k866_L_words l G cy hl0 h0 h1 h4 h5 h6 h7 h8 h9 h10 h11 h12 h13 h14 (xs 2) j (by omega) (by omega) hneg).e) [0, 1] [2, 3] rfl rfl rfl rfl rfl (by decide) rfl hl.1 rfl (Nat.le_of_ble_eq_true rfl) dL_law_985 ⟨Nat.le_of_ble_eq_true rfl, Nat.le_of_ble_eq_true rfl⟩ (fun _ => [(h2, .inr (12, [.int 0, .ref h3, .int 0, .int 0, .int 0, .int (-1), .int 0, .int 0, .ref h15, .ref h16, .ref h17, .ref h18, .int 0, .ref h19, .ref h20, .int 0, .ref h21, .ref h22, .ref h23, .ref h24, .ref h25, .int 0, .ref h26, .ref h27, .ref h28, .int 0, .ref h29, .ref h30, .ref h31, .int 0, .int 0, .ref h32, .ref h33, .ref h34, .int 0, .long 0, .long 0, .ref h35, .ref h36, .ref h37, .ref h38, .ref h39, .ref h40, .ref h41, .ref h42, .ref h43, .ref h44, .int 0, .int 0, .ref h45, .ref h46, .ref h47, .ref h48, .ref h49, .ref h50, .ref h51, .ref h52, .ref h53, .int 0, .int 0, .int 0, .int 0, .long 0, .ref h54, .ref h55, .ref h56, .int 0, .int 0, .long 0])), (h3, .inl (cy 0, 3, .inl (kc 0)))]) (fun _ => rfl) (fun qs1 H locs hT => ?_)
  refine lv_istore (pc := 988) (lv' := [(5, .int 2), (0, .ref b), (1, .ref h0), (2, .ref h2), (3, .ref h4), (4, .int 0)]) hx hb dL_law_988 hl (by decide) rfl (fun ls hl => ?_)
  refine lv_aload_n (pc := 990) hx hb dL_law_990 rfl (lv_at hl 3 rfl) ?_
  refine lv_aload_n (pc := 991) hx hb dL_law_991 rfl (lv_at hl 1 rfl) ?_
  refine lv_iload (pc := 992) hx hb dL_law_992 (lv_at hl 5 rfl) ?_
  refine lv_iconst (pc := 994) (v := 1) hx hb dL_law_994 (by decide) ?_
  refine z_iadd (pc := 995) (v := 1) hx hb dL_law_995 (by decide) ?_
  refine z_sld (pc := 996) (v := (nI j)) hx hb hX hbl hbA hT 1 rfl (by decide) hs1 dL_law_996 ?_
  refine lv_aload_n (pc := 997) hx hb dL_law_997 rfl (lv_at hl 1 rfl) ?_
  refine lv_iload (pc := 998) hx hb dL_law_998 (lv_at hl 5 rfl) ?_
  refine lv_iconst (pc := 1000) (v := 2) hx hb dL_law_1000 (by decide) ?_
  refine z_iadd (pc := 1001) (v := 2) hx hb dL_law_1001 (by decide) ?_
  refine z_sld (pc := 1002) (v := (xs 2)) hx hb hX hbl hbA hT 2 rfl (by decide) rfl dL_law_1002 ?_
  refine z_cVI (pc := 1003) hx hb hml hown hts hK hA hT lkV_RL_140 (k714_X12_words l G cy h2 h3 h15 h16 h17 h18 h19 h20 h21 h22 h23 h24 h25 h26 h27 h28 h29 h30 h31 h32 h33 h34 h35 h36 h37 h38 h39 h40 h41 h42 h43 h44 h45 h46 h47 h48 h49 h50 h51 h52 h53 h54 h55 h56 (xs 2) j (by omega) (by omega) hneg) [0, 1] [] rfl rfl rfl rfl rfl 0 rfl rfl (by decide) rfl hl.1 rfl (Nat.le_of_ble_eq_true rfl) dL_law_1003 ⟨Nat.le_of_ble_eq_true rfl, Nat.le_of_ble_eq_true rfl⟩ (fun _ => [(h2, .inr (12, [.int 2, .ref h3, .int 0, .int 0, .int 0, .int (-1), .int 0, .int 0, .ref h15, .ref h16, .ref h17, .ref h18, .int 0, .ref h19, .ref h20, .int 0, .ref h21, .ref h22, .ref h23, .ref h24, .ref h25, .int 0, .ref h26, .ref h27, .ref h28, .int 0, .ref h29, .ref h30, .ref h31, .int 0, .int 0, .ref h32, .ref h33, .ref h34, .int 0, .long 0, .long 0, .ref h35, .ref h36, .ref h37, .ref h38, .ref h39, .ref h40, .ref h41, .ref h42, .ref h43, .ref h44, .int 0, .int 0, .ref h45, .ref h46, .ref h47, .ref h48, .ref h49, .ref h50, .ref h51, .ref h52, .ref h53, .int 0, .int 0, .int 0, .int 0, .long 0, .ref h54, .ref h55, .ref h56, .int 0, .int 0, .long 0]))]) (fun _ => rfl) (fun qs2 H locs hT => ?_)
  refine lv_istore (pc := 1006) (lv' := [(6, .int 0), (5, .int 2), (0, .ref b), (1, .ref h0), (2, .ref h2), (3, .ref h4), (4, .int 0)]) hx hb dL_law_1006 hl (by decide) rfl (fun ls hl => ?_)
  refine lv_aload_n (pc := 1008) hx hb dL_law_1008 rfl (lv_at hl 4 rfl) ?_
  refine z_cVI (pc := 1009) hx hb hml hown hts hK hA hT lkV_RL_96 (k1052_X12_thrown l G cy h2 h3 h15 h16 h17 h18 h19 h20 h21 h22 h23 h24 h25 h26 h27 h28 h29 h30 h31 h32 h33 h34 h35 h36 h37 h38 h39 h40 h41 h42 h43 h44 h45 h46 h47 h48 h49 h50 h51 h52 h53 h54 h55 h56) [0] [] rfl rfl rfl rfl rfl 0 rfl rfl (by decide) rfl hl.1 rfl (Nat.le_of_ble_eq_true rfl) dL_law_1009 ⟨Nat.le_of_ble_eq_true rfl, Nat.le_of_ble_eq_true rfl⟩ (fun _ => [(h2, .inr (12, [.int 2, .ref h3, .int 0, .int 0, .int 0, .int (-1), .int 0, .int 0, .ref h15, .ref h16, .ref h17, .ref h18, .int 0, .ref h19, .ref h20, .int 0, .ref h21, .ref h22, .ref h23, .ref h24, .ref h25, .int 0, .ref h26, .ref h27, .ref h28, .int 0, .ref h29, .ref h30, .ref h31, .int 0, .int 0, .ref h32, .ref h33, .ref h34, .int 0, .long 0, .long 0, .ref h35, .ref h36, .ref h37, .ref h38, .ref h39, .ref h40, .ref h41, .ref h42, .ref h43, .ref h44, .int 0, .int 0, .ref h45, .ref h46, .ref h47, .ref h48, .ref h49, .ref h50, .ref h51, .ref h52, .ref h53, .int 0, .int 0, .int 0, .int 0, .long 0, .ref h54, .ref h55, .ref h56, .int 0, .int 0, .long 0]))]) (fun _ => rfl) (fun qs3 H locs hT => ?_)
  refine lv_iload (pc := 1012) hx hb dL_law_1012 (lv_at hl 1 rfl) ?_
  refine zb_icmp_eq_t (pc := 1014) (tgt := 1019) hx hb dL_law_1014 (by decide) (by decide) ?_
  refine lv_iload (pc := 1019) hx hb dL_law_1019 (lv_at hl 1 rfl) ?_
  refine zb_if_ne_t (pc := 1021) (tgt := 1036) hx hb dL_law_1021 (by decide) (by decide) ?_
  refine lv_goto (pc := 1036) (tgt := 1719) hx hb dL_law_1036 (by decide) ?_
  exact q_end hx hb hr hlk hX hbl hT (lv_sub hl [2, 6] rfl) (Nat.le_of_ble_eq_true rfl) (Nat.le_of_ble_eq_true rfl)
set_option maxHeartbeats 4000000 in
set_option maxRecDepth 100000 in
theorem q_words_1_big {p : Program} {l : Launch} {e : Env} {s : State} {m : MethodId} {below : List Frame} {meth : Method} {c : Code} {H : Heap} {locs : List Loc} {ls : Array Slot} {G : va_G} {cy : Nat → ClassId} {b : Nat} {xs : Nat → Int32} (C : zC l G cy p s m meth c b 6 xs) (h0 h1 h2 h3 h4 h5 h6 h7 h8 h9 h10 h11 h12 h13 h14 h15 h16 h17 h18 h19 h20 h21 h22 h23 h24 h25 h26 h27 h28 h29 h30 h31 h32 h33 h34 h35 h36 h37 h38 h39 h40 h41 h42 h43 h44 h45 h46 h47 h48 h49 h50 h51 h52 h53 h54 h55 h56 : Nat) (j : Nat) (hloj : 0 ≤ j) (hhij : j < 6) (hs1 : xs 1 = (nI j)) (hb1 : ¬ ((xs 2) : Int32) < 0) (hb2 : (8 : Int32) < (xs 2)) (hT : zT G (fun q => s.heap.size ≤ q) s.heap H locs [(h0, .inr (11, [.ref h5, .ref h6, .ref h7, .ref h8, .ref h9, .ref h10, .ref h11, .ref h12, .ref h13, .ref h14, .ref h1, .int (-1), .int (-1), .int (-1), .int (-1)])), (h1, .inl (cy 0, 3, .inl (kc 0))), (h2, .inr (12, [.int 0, .ref h3, .int 0, .int 0, .int 0, .int (-1), .int 0, .int 0, .ref h15, .ref h16, .ref h17, .ref h18, .int 0, .ref h19, .ref h20, .int 0, .ref h21, .ref h22, .ref h23, .ref h24, .ref h25, .int 0, .ref h26, .ref h27, .ref h28, .int 0, .ref h29, .ref h30, .ref h31, .int 0, .int 0, .ref h32, .ref h33, .ref h34, .int 0, .long 0, .long 0, .ref h35, .ref h36, .ref h37, .ref h38, .ref h39, .ref h40, .ref h41, .ref h42, .ref h43, .ref h44, .int 0, .int 0, .ref h45, .ref h46, .ref h47, .ref h48, .ref h49, .ref h50, .ref h51, .ref h52, .ref h53, .int 0, .int 0, .int 0, .int 0, .long 0, .ref h54, .ref h55, .ref h56, .int 0, .int 0, .long 0])), (h3, .inl (cy 0, 3, .inl (kc 0)))]) (hl : lv_has ls 8 [(0, .ref b), (1, .ref h0), (2, .ref h2), (3, .ref h4), (4, .int 0)]) : W p l e (zR 1000 600002 7302232) s m #[Value.ref b] below meth c H locs 476 284354 (lw_Z below #[Value.ref b] s) (F0 m 971 ls []) := by
  obtain ⟨hl0, hx, hb, hr, hml, hown, hts, hX, hbl, hlk, hK, hE, q1, v1, q2, v2, hS⟩ := C
  have hA : ∀ q : Nat, s.heap.size ≤ q → (fun q => s.heap.size ≤ q) q := fun _ h => h
  have hbA : ¬ (fun q => s.heap.size ≤ q) b := Nat.not_le.mpr hbl
  refine lv_aload_n (pc := 971) hx hb dL_law_971 rfl (lv_at hl 1 rfl) ?_
  refine lv_aload_n (pc := 972) hx hb dL_law_972 rfl (lv_at hl 0 rfl) ?_
  refine lv_iload (pc := 973) hx hb dL_law_973 (lv_at hl 4 rfl) ?_
  refine lv_iconst (pc := 975) (v := 1) hx hb dL_law_975 (by decide) ?_
  refine z_iadd (pc := 976) (v := 1) hx hb dL_law_976 (by decide) ?_
  refine z_sld (pc := 977) (v := (nI j)) hx hb hX hbl hbA hT 1 rfl (by decide) hs1 dL_law_977 ?_
  refine lv_aload_n (pc := 978) hx hb dL_law_978 rfl (lv_at hl 0 rfl) ?_
  refine lv_iload (pc := 979) hx hb dL_law_979 (lv_at hl 4 rfl) ?_
  refine lv_iconst (pc := 981) (v := 2) hx hb dL_law_981 (by decide) ?_
  refine z_iadd (pc := 982) (v := 2) hx hb dL_law_982 (by decide) ?_
  refine z_sld (pc := 983) (v := (xs 2)) hx hb hX hbl hbA hT 2 rfl (by decide) rfl dL_law_983 ?_
  refine lv_aload_n (pc := 984) hx hb dL_law_984 rfl (lv_at hl 3 rfl) ?_
  refine z_eHI (pc := 985) zE_ok hE hx hb hml hown hts hK hA hT lkH_RL_138 ((k867_L_words l G cy hl0 h0 h1 h4 h5 h6 h7 h8 h9 h10 h11 h12 h13 h14 (xs 2) j (by omega) (by omega) hb1 hb2).e) [0, 1] [2, 3] rfl rfl rfl rfl rfl (by decide) rfl hl.1 rfl (Nat.le_of_ble_eq_true rfl) dL_law_985 ⟨Nat.le_of_ble_eq_true rfl, Nat.le_of_ble_eq_true rfl⟩ (fun _ => [(h2, .inr (12, [.int 0, .ref h3, .int 0, .int 0, .int 0, .int (-1), .int 0, .int 0, .ref h15, .ref h16, .ref h17, .ref h18, .int 0, .ref h19, .ref h20, .int 0, .ref h21, .ref h22, .ref h23, .ref h24, .ref h25, .int 0, .ref h26, .ref h27, .ref h28, .int 0, .ref h29, .ref h30, .ref h31, .int 0, .int 0, .ref h32, .ref h33, .ref h34, .int 0, .long 0, .long 0, .ref h35, .ref h36, .ref h37, .ref h38, .ref h39, .ref h40, .ref h41, .ref h42, .ref h43, .ref h44, .int 0, .int 0, .ref h45, .ref h46, .ref h47, .ref h48, .ref h49, .ref h50, .ref h51, .ref h52, .ref h53, .int 0, .int 0, .int 0, .int 0, .long 0, .ref h54, .ref h55, .ref h56, .int 0, .int 0, .long 0])), (h3, .inl (cy 0, 3, .inl (kc 0)))]) (fun _ => rfl) (fun qs1 H locs hT => ?_)
  refine lv_istore (pc := 988) (lv' := [(5, .int 2), (0, .ref b), (1, .ref h0), (2, .ref h2), (3, .ref h4), (4, .int 0)]) hx hb dL_law_988 hl (by decide) rfl (fun ls hl => ?_)
  refine lv_aload_n (pc := 990) hx hb dL_law_990 rfl (lv_at hl 3 rfl) ?_
  refine lv_aload_n (pc := 991) hx hb dL_law_991 rfl (lv_at hl 1 rfl) ?_
  refine lv_iload (pc := 992) hx hb dL_law_992 (lv_at hl 5 rfl) ?_
  refine lv_iconst (pc := 994) (v := 1) hx hb dL_law_994 (by decide) ?_
  refine z_iadd (pc := 995) (v := 1) hx hb dL_law_995 (by decide) ?_
  refine z_sld (pc := 996) (v := (nI j)) hx hb hX hbl hbA hT 1 rfl (by decide) hs1 dL_law_996 ?_
  refine lv_aload_n (pc := 997) hx hb dL_law_997 rfl (lv_at hl 1 rfl) ?_
  refine lv_iload (pc := 998) hx hb dL_law_998 (lv_at hl 5 rfl) ?_
  refine lv_iconst (pc := 1000) (v := 2) hx hb dL_law_1000 (by decide) ?_
  refine z_iadd (pc := 1001) (v := 2) hx hb dL_law_1001 (by decide) ?_
  refine z_sld (pc := 1002) (v := (xs 2)) hx hb hX hbl hbA hT 2 rfl (by decide) rfl dL_law_1002 ?_
  refine z_cVI (pc := 1003) hx hb hml hown hts hK hA hT lkV_RL_140 (k716_X12_words l G cy h2 h3 h15 h16 h17 h18 h19 h20 h21 h22 h23 h24 h25 h26 h27 h28 h29 h30 h31 h32 h33 h34 h35 h36 h37 h38 h39 h40 h41 h42 h43 h44 h45 h46 h47 h48 h49 h50 h51 h52 h53 h54 h55 h56 (xs 2) j (by omega) (by omega) hb1 hb2) [0, 1] [] rfl rfl rfl rfl rfl 0 rfl rfl (by decide) rfl hl.1 rfl (Nat.le_of_ble_eq_true rfl) dL_law_1003 ⟨Nat.le_of_ble_eq_true rfl, Nat.le_of_ble_eq_true rfl⟩ (fun _ => [(h2, .inr (12, [.int 2, .ref h3, .int 0, .int 0, .int 0, .int (-1), .int 0, .int 0, .ref h15, .ref h16, .ref h17, .ref h18, .int 0, .ref h19, .ref h20, .int 0, .ref h21, .ref h22, .ref h23, .ref h24, .ref h25, .int 0, .ref h26, .ref h27, .ref h28, .int 0, .ref h29, .ref h30, .ref h31, .int 0, .int 0, .ref h32, .ref h33, .ref h34, .int 0, .long 0, .long 0, .ref h35, .ref h36, .ref h37, .ref h38, .ref h39, .ref h40, .ref h41, .ref h42, .ref h43, .ref h44, .int 0, .int 0, .ref h45, .ref h46, .ref h47, .ref h48, .ref h49, .ref h50, .ref h51, .ref h52, .ref h53, .int 0, .int 0, .int 0, .int 0, .long 0, .ref h54, .ref h55, .ref h56, .int 0, .int 0, .long 0]))]) (fun _ => rfl) (fun qs2 H locs hT => ?_)
  refine lv_istore (pc := 1006) (lv' := [(6, .int 0), (5, .int 2), (0, .ref b), (1, .ref h0), (2, .ref h2), (3, .ref h4), (4, .int 0)]) hx hb dL_law_1006 hl (by decide) rfl (fun ls hl => ?_)
  refine lv_aload_n (pc := 1008) hx hb dL_law_1008 rfl (lv_at hl 4 rfl) ?_
  refine z_cVI (pc := 1009) hx hb hml hown hts hK hA hT lkV_RL_96 (k1052_X12_thrown l G cy h2 h3 h15 h16 h17 h18 h19 h20 h21 h22 h23 h24 h25 h26 h27 h28 h29 h30 h31 h32 h33 h34 h35 h36 h37 h38 h39 h40 h41 h42 h43 h44 h45 h46 h47 h48 h49 h50 h51 h52 h53 h54 h55 h56) [0] [] rfl rfl rfl rfl rfl 0 rfl rfl (by decide) rfl hl.1 rfl (Nat.le_of_ble_eq_true rfl) dL_law_1009 ⟨Nat.le_of_ble_eq_true rfl, Nat.le_of_ble_eq_true rfl⟩ (fun _ => [(h2, .inr (12, [.int 2, .ref h3, .int 0, .int 0, .int 0, .int (-1), .int 0, .int 0, .ref h15, .ref h16, .ref h17, .ref h18, .int 0, .ref h19, .ref h20, .int 0, .ref h21, .ref h22, .ref h23, .ref h24, .ref h25, .int 0, .ref h26, .ref h27, .ref h28, .int 0, .ref h29, .ref h30, .ref h31, .int 0, .int 0, .ref h32, .ref h33, .ref h34, .int 0, .long 0, .long 0, .ref h35, .ref h36, .ref h37, .ref h38, .ref h39, .ref h40, .ref h41, .ref h42, .ref h43, .ref h44, .int 0, .int 0, .ref h45, .ref h46, .ref h47, .ref h48, .ref h49, .ref h50, .ref h51, .ref h52, .ref h53, .int 0, .int 0, .int 0, .int 0, .long 0, .ref h54, .ref h55, .ref h56, .int 0, .int 0, .long 0]))]) (fun _ => rfl) (fun qs3 H locs hT => ?_)
  refine lv_iload (pc := 1012) hx hb dL_law_1012 (lv_at hl 1 rfl) ?_
  refine zb_icmp_eq_t (pc := 1014) (tgt := 1019) hx hb dL_law_1014 (by decide) (by decide) ?_
  refine lv_iload (pc := 1019) hx hb dL_law_1019 (lv_at hl 1 rfl) ?_
  refine zb_if_ne_t (pc := 1021) (tgt := 1036) hx hb dL_law_1021 (by decide) (by decide) ?_
  refine lv_goto (pc := 1036) (tgt := 1719) hx hb dL_law_1036 (by decide) ?_
  exact q_end hx hb hr hlk hX hbl hT (lv_sub hl [2, 6] rfl) (Nat.le_of_ble_eq_true rfl) (Nat.le_of_ble_eq_true rfl)
set_option maxHeartbeats 4000000 in
set_option maxRecDepth 100000 in
theorem q_worst_0_neg {p : Program} {l : Launch} {e : Env} {s : State} {m : MethodId} {below : List Frame} {meth : Method} {c : Code} {H : Heap} {locs : List Loc} {ls : Array Slot} {G : va_G} {cy : Nat → ClassId} {b : Nat} {xs : Nat → Int32} (C : zC l G cy p s m meth c b 6 xs) (h0 h1 h2 h3 h4 h5 h6 h7 h8 h9 h10 h11 h12 h13 h14 h15 h16 h17 h18 h19 h20 h21 h22 h23 h24 h25 h26 h27 h28 h29 h30 h31 h32 h33 h34 h35 h36 h37 h38 h39 h40 h41 h42 h43 h44 h45 h46 h47 h48 h49 h50 h51 h52 h53 h54 h55 h56 : Nat) (hneg : ((xs 1) : Int32) < 0) (hT : zT G (fun q => s.heap.size ≤ q) s.heap H locs [(h0, .inr (11, [.ref h5, .ref h6, .ref h7, .ref h8, .ref h9, .ref h10, .ref h11, .ref h12, .ref h13, .ref h14, .ref h1, .int (-1), .int (-1), .int (-1), .int (-1)])), (h1, .inl (cy 0, 3, .inl (kc 0))), (h2, .inr (12, [.int 0, .ref h3, .int 0, .int 0, .int 0, .int (-1), .int 0, .int 0, .ref h15, .ref h16, .ref h17, .ref h18, .int 0, .ref h19, .ref h20, .int 0, .ref h21, .ref h22, .ref h23, .ref h24, .ref h25, .int 0, .ref h26, .ref h27, .ref h28, .int 0, .ref h29, .ref h30, .ref h31, .int 0, .int 0, .ref h32, .ref h33, .ref h34, .int 0, .long 0, .long 0, .ref h35, .ref h36, .ref h37, .ref h38, .ref h39, .ref h40, .ref h41, .ref h42, .ref h43, .ref h44, .int 0, .int 0, .ref h45, .ref h46, .ref h47, .ref h48, .ref h49, .ref h50, .ref h51, .ref h52, .ref h53, .int 0, .int 0, .int 0, .int 0, .long 0, .ref h54, .ref h55, .ref h56, .int 0, .int 0, .long 0])), (h3, .inl (cy 0, 3, .inl (kc 0)))]) (hl : lv_has ls 8 [(0, .ref b), (1, .ref h0), (2, .ref h2), (3, .ref h4), (4, .int 0)]) : W p l e (zR 1000 600002 7302232) s m #[Value.ref b] below meth c H locs 476 284354 (lw_Z below #[Value.ref b] s) (F0 m 1039 ls []) := by
  obtain ⟨hl0, hx, hb, hr, hml, hown, hts, hX, hbl, hlk, hK, hE, q1, v1, q2, v2, hS⟩ := C
  have hA : ∀ q : Nat, s.heap.size ≤ q → (fun q => s.heap.size ≤ q) q := fun _ h => h
  have hbA : ¬ (fun q => s.heap.size ≤ q) b := Nat.not_le.mpr hbl
  refine lv_aload_n (pc := 1039) hx hb dL_law_1039 rfl (lv_at hl 1 rfl) ?_
  refine lv_aload_n (pc := 1040) hx hb dL_law_1040 rfl (lv_at hl 0 rfl) ?_
  refine lv_iload (pc := 1041) hx hb dL_law_1041 (lv_at hl 4 rfl) ?_
  refine lv_iconst (pc := 1043) (v := 1) hx hb dL_law_1043 (by decide) ?_
  refine z_iadd (pc := 1044) (v := 1) hx hb dL_law_1044 (by decide) ?_
  refine z_sld (pc := 1045) (v := (xs 1)) hx hb hX hbl hbA hT 1 rfl (by decide) rfl dL_law_1045 ?_
  refine lv_aload_n (pc := 1046) hx hb dL_law_1046 rfl (lv_at hl 0 rfl) ?_
  refine lv_iload (pc := 1047) hx hb dL_law_1047 (lv_at hl 4 rfl) ?_
  refine lv_iconst (pc := 1049) (v := 2) hx hb dL_law_1049 (by decide) ?_
  refine z_iadd (pc := 1050) (v := 2) hx hb dL_law_1050 (by decide) ?_
  refine z_sld (pc := 1051) (v := (xs 2)) hx hb hX hbl hbA hT 2 rfl (by decide) rfl dL_law_1051 ?_
  refine lv_aload_n (pc := 1052) hx hb dL_law_1052 rfl (lv_at hl 0 rfl) ?_
  refine lv_iload (pc := 1053) hx hb dL_law_1053 (lv_at hl 4 rfl) ?_
  refine lv_iconst (pc := 1055) (v := 3) hx hb dL_law_1055 (by decide) ?_
  refine z_iadd (pc := 1056) (v := 3) hx hb dL_law_1056 (by decide) ?_
  refine z_sld (pc := 1057) (v := (xs 3)) hx hb hX hbl hbA hT 3 rfl (by decide) rfl dL_law_1057 ?_
  refine lv_aload_n (pc := 1058) hx hb dL_law_1058 rfl (lv_at hl 3 rfl) ?_
  refine z_eHI (pc := 1059) zE_ok hE hx hb hml hown hts hK hA hT lkH_RL_141 ((k868_L_worst l G cy hl0 h0 h1 h4 h5 h6 h7 h8 h9 h10 h11 h12 h13 h14 (xs 1) (xs 2) (xs 3) hneg).e) [0, 1] [2, 3] rfl rfl rfl rfl rfl (by decide) rfl hl.1 rfl (Nat.le_of_ble_eq_true rfl) dL_law_1059 ⟨Nat.le_of_ble_eq_true rfl, Nat.le_of_ble_eq_true rfl⟩ (fun _ => [(h2, .inr (12, [.int 0, .ref h3, .int 0, .int 0, .int 0, .int (-1), .int 0, .int 0, .ref h15, .ref h16, .ref h17, .ref h18, .int 0, .ref h19, .ref h20, .int 0, .ref h21, .ref h22, .ref h23, .ref h24, .ref h25, .int 0, .ref h26, .ref h27, .ref h28, .int 0, .ref h29, .ref h30, .ref h31, .int 0, .int 0, .ref h32, .ref h33, .ref h34, .int 0, .long 0, .long 0, .ref h35, .ref h36, .ref h37, .ref h38, .ref h39, .ref h40, .ref h41, .ref h42, .ref h43, .ref h44, .int 0, .int 0, .ref h45, .ref h46, .ref h47, .ref h48, .ref h49, .ref h50, .ref h51, .ref h52, .ref h53, .int 0, .int 0, .int 0, .int 0, .long 0, .ref h54, .ref h55, .ref h56, .int 0, .int 0, .long 0])), (h3, .inl (cy 0, 3, .inl (kc 0)))]) (fun _ => rfl) (fun qs1 H locs hT => ?_)
  refine lv_istore (pc := 1062) (lv' := [(5, .int 1), (0, .ref b), (1, .ref h0), (2, .ref h2), (3, .ref h4), (4, .int 0)]) hx hb dL_law_1062 hl (by decide) rfl (fun ls hl => ?_)
  refine lv_aload_n (pc := 1064) hx hb dL_law_1064 rfl (lv_at hl 3 rfl) ?_
  refine lv_aload_n (pc := 1065) hx hb dL_law_1065 rfl (lv_at hl 1 rfl) ?_
  refine lv_iload (pc := 1066) hx hb dL_law_1066 (lv_at hl 5 rfl) ?_
  refine lv_iconst (pc := 1068) (v := 1) hx hb dL_law_1068 (by decide) ?_
  refine z_iadd (pc := 1069) (v := 1) hx hb dL_law_1069 (by decide) ?_
  refine z_sld (pc := 1070) (v := (xs 1)) hx hb hX hbl hbA hT 1 rfl (by decide) rfl dL_law_1070 ?_
  refine lv_aload_n (pc := 1071) hx hb dL_law_1071 rfl (lv_at hl 1 rfl) ?_
  refine lv_iload (pc := 1072) hx hb dL_law_1072 (lv_at hl 5 rfl) ?_
  refine lv_iconst (pc := 1074) (v := 2) hx hb dL_law_1074 (by decide) ?_
  refine z_iadd (pc := 1075) (v := 2) hx hb dL_law_1075 (by decide) ?_
  refine z_sld (pc := 1076) (v := (xs 2)) hx hb hX hbl hbA hT 2 rfl (by decide) rfl dL_law_1076 ?_
  refine lv_aload_n (pc := 1077) hx hb dL_law_1077 rfl (lv_at hl 1 rfl) ?_
  refine lv_iload (pc := 1078) hx hb dL_law_1078 (lv_at hl 5 rfl) ?_
  refine lv_iconst (pc := 1080) (v := 3) hx hb dL_law_1080 (by decide) ?_
  refine z_iadd (pc := 1081) (v := 3) hx hb dL_law_1081 (by decide) ?_
  refine z_sld (pc := 1082) (v := (xs 3)) hx hb hX hbl hbA hT 3 rfl (by decide) rfl dL_law_1082 ?_
  refine z_cVI (pc := 1083) hx hb hml hown hts hK hA hT lkV_RL_143 (k717_X12_worst l G cy h2 h3 h15 h16 h17 h18 h19 h20 h21 h22 h23 h24 h25 h26 h27 h28 h29 h30 h31 h32 h33 h34 h35 h36 h37 h38 h39 h40 h41 h42 h43 h44 h45 h46 h47 h48 h49 h50 h51 h52 h53 h54 h55 h56 (xs 1) (xs 2) (xs 3) hneg) [0, 1] [] rfl rfl rfl rfl rfl 0 rfl rfl (by decide) rfl hl.1 rfl (Nat.le_of_ble_eq_true rfl) dL_law_1083 ⟨Nat.le_of_ble_eq_true rfl, Nat.le_of_ble_eq_true rfl⟩ (fun _ => [(h2, .inr (12, [.int 1, .ref h3, .int 0, .int 0, .int 0, .int (-1), .int 0, .int 0, .ref h15, .ref h16, .ref h17, .ref h18, .int 0, .ref h19, .ref h20, .int 0, .ref h21, .ref h22, .ref h23, .ref h24, .ref h25, .int 0, .ref h26, .ref h27, .ref h28, .int 0, .ref h29, .ref h30, .ref h31, .int 0, .int 0, .ref h32, .ref h33, .ref h34, .int 0, .long 0, .long 0, .ref h35, .ref h36, .ref h37, .ref h38, .ref h39, .ref h40, .ref h41, .ref h42, .ref h43, .ref h44, .int 0, .int 0, .ref h45, .ref h46, .ref h47, .ref h48, .ref h49, .ref h50, .ref h51, .ref h52, .ref h53, .int 0, .int 0, .int 0, .int 0, .long 0, .ref h54, .ref h55, .ref h56, .int 0, .int 0, .long 0]))]) (fun _ => rfl) (fun qs2 H locs hT => ?_)
  refine lv_istore (pc := 1086) (lv' := [(6, .int 0), (5, .int 1), (0, .ref b), (1, .ref h0), (2, .ref h2), (3, .ref h4), (4, .int 0)]) hx hb dL_law_1086 hl (by decide) rfl (fun ls hl => ?_)
  refine lv_aload_n (pc := 1088) hx hb dL_law_1088 rfl (lv_at hl 4 rfl) ?_
  refine z_cVI (pc := 1089) hx hb hml hown hts hK hA hT lkV_RL_96 (k1051_X12_thrown l G cy h2 h3 h15 h16 h17 h18 h19 h20 h21 h22 h23 h24 h25 h26 h27 h28 h29 h30 h31 h32 h33 h34 h35 h36 h37 h38 h39 h40 h41 h42 h43 h44 h45 h46 h47 h48 h49 h50 h51 h52 h53 h54 h55 h56) [0] [] rfl rfl rfl rfl rfl 0 rfl rfl (by decide) rfl hl.1 rfl (Nat.le_of_ble_eq_true rfl) dL_law_1089 ⟨Nat.le_of_ble_eq_true rfl, Nat.le_of_ble_eq_true rfl⟩ (fun _ => [(h2, .inr (12, [.int 1, .ref h3, .int 0, .int 0, .int 0, .int (-1), .int 0, .int 0, .ref h15, .ref h16, .ref h17, .ref h18, .int 0, .ref h19, .ref h20, .int 0, .ref h21, .ref h22, .ref h23, .ref h24, .ref h25, .int 0, .ref h26, .ref h27, .ref h28, .int 0, .ref h29, .ref h30, .ref h31, .int 0, .int 0, .ref h32, .ref h33, .ref h34, .int 0, .long 0, .long 0, .ref h35, .ref h36, .ref h37, .ref h38, .ref h39, .ref h40, .ref h41, .ref h42, .ref h43, .ref h44, .int 0, .int 0, .ref h45, .ref h46, .ref h47, .ref h48, .ref h49, .ref h50, .ref h51, .ref h52, .ref h53, .int 0, .int 0, .int 0, .int 0, .long 0, .ref h54, .ref h55, .ref h56, .int 0, .int 0, .long 0]))]) (fun _ => rfl) (fun qs3 H locs hT => ?_)
  refine lv_iload (pc := 1092) hx hb dL_law_1092 (lv_at hl 1 rfl) ?_
  refine zb_icmp_eq_t (pc := 1094) (tgt := 1099) hx hb dL_law_1094 (by decide) (by decide) ?_
  refine lv_iload (pc := 1099) hx hb dL_law_1099 (lv_at hl 1 rfl) ?_
  refine zb_if_ne_t (pc := 1101) (tgt := 1116) hx hb dL_law_1101 (by decide) (by decide) ?_
  refine lv_goto (pc := 1116) (tgt := 1719) hx hb dL_law_1116 (by decide) ?_
  exact q_end hx hb hr hlk hX hbl hT (lv_sub hl [2, 6] rfl) (Nat.le_of_ble_eq_true rfl) (Nat.le_of_ble_eq_true rfl)
set_option maxHeartbeats 4000000 in
set_option maxRecDepth 100000 in
theorem q_worst_0_big {p : Program} {l : Launch} {e : Env} {s : State} {m : MethodId} {below : List Frame} {meth : Method} {c : Code} {H : Heap} {locs : List Loc} {ls : Array Slot} {G : va_G} {cy : Nat → ClassId} {b : Nat} {xs : Nat → Int32} (C : zC l G cy p s m meth c b 6 xs) (h0 h1 h2 h3 h4 h5 h6 h7 h8 h9 h10 h11 h12 h13 h14 h15 h16 h17 h18 h19 h20 h21 h22 h23 h24 h25 h26 h27 h28 h29 h30 h31 h32 h33 h34 h35 h36 h37 h38 h39 h40 h41 h42 h43 h44 h45 h46 h47 h48 h49 h50 h51 h52 h53 h54 h55 h56 : Nat) (hb1 : ¬ ((xs 1) : Int32) < 0) (hb2 : ¬ ((xs 1) : Int32) < 6) (hb3 : (5 : Int32) < (xs 1)) (hT : zT G (fun q => s.heap.size ≤ q) s.heap H locs [(h0, .inr (11, [.ref h5, .ref h6, .ref h7, .ref h8, .ref h9, .ref h10, .ref h11, .ref h12, .ref h13, .ref h14, .ref h1, .int (-1), .int (-1), .int (-1), .int (-1)])), (h1, .inl (cy 0, 3, .inl (kc 0))), (h2, .inr (12, [.int 0, .ref h3, .int 0, .int 0, .int 0, .int (-1), .int 0, .int 0, .ref h15, .ref h16, .ref h17, .ref h18, .int 0, .ref h19, .ref h20, .int 0, .ref h21, .ref h22, .ref h23, .ref h24, .ref h25, .int 0, .ref h26, .ref h27, .ref h28, .int 0, .ref h29, .ref h30, .ref h31, .int 0, .int 0, .ref h32, .ref h33, .ref h34, .int 0, .long 0, .long 0, .ref h35, .ref h36, .ref h37, .ref h38, .ref h39, .ref h40, .ref h41, .ref h42, .ref h43, .ref h44, .int 0, .int 0, .ref h45, .ref h46, .ref h47, .ref h48, .ref h49, .ref h50, .ref h51, .ref h52, .ref h53, .int 0, .int 0, .int 0, .int 0, .long 0, .ref h54, .ref h55, .ref h56, .int 0, .int 0, .long 0])), (h3, .inl (cy 0, 3, .inl (kc 0)))]) (hl : lv_has ls 8 [(0, .ref b), (1, .ref h0), (2, .ref h2), (3, .ref h4), (4, .int 0)]) : W p l e (zR 1000 600002 7302232) s m #[Value.ref b] below meth c H locs 476 284354 (lw_Z below #[Value.ref b] s) (F0 m 1039 ls []) := by
  obtain ⟨hl0, hx, hb, hr, hml, hown, hts, hX, hbl, hlk, hK, hE, q1, v1, q2, v2, hS⟩ := C
  have hA : ∀ q : Nat, s.heap.size ≤ q → (fun q => s.heap.size ≤ q) q := fun _ h => h
  have hbA : ¬ (fun q => s.heap.size ≤ q) b := Nat.not_le.mpr hbl
  refine lv_aload_n (pc := 1039) hx hb dL_law_1039 rfl (lv_at hl 1 rfl) ?_
  refine lv_aload_n (pc := 1040) hx hb dL_law_1040 rfl (lv_at hl 0 rfl) ?_
  refine lv_iload (pc := 1041) hx hb dL_law_1041 (lv_at hl 4 rfl) ?_
  refine lv_iconst (pc := 1043) (v := 1) hx hb dL_law_1043 (by decide) ?_
  refine z_iadd (pc := 1044) (v := 1) hx hb dL_law_1044 (by decide) ?_
  refine z_sld (pc := 1045) (v := (xs 1)) hx hb hX hbl hbA hT 1 rfl (by decide) rfl dL_law_1045 ?_
  refine lv_aload_n (pc := 1046) hx hb dL_law_1046 rfl (lv_at hl 0 rfl) ?_
  refine lv_iload (pc := 1047) hx hb dL_law_1047 (lv_at hl 4 rfl) ?_
  refine lv_iconst (pc := 1049) (v := 2) hx hb dL_law_1049 (by decide) ?_
  refine z_iadd (pc := 1050) (v := 2) hx hb dL_law_1050 (by decide) ?_
  refine z_sld (pc := 1051) (v := (xs 2)) hx hb hX hbl hbA hT 2 rfl (by decide) rfl dL_law_1051 ?_
  refine lv_aload_n (pc := 1052) hx hb dL_law_1052 rfl (lv_at hl 0 rfl) ?_
  refine lv_iload (pc := 1053) hx hb dL_law_1053 (lv_at hl 4 rfl) ?_
  refine lv_iconst (pc := 1055) (v := 3) hx hb dL_law_1055 (by decide) ?_
  refine z_iadd (pc := 1056) (v := 3) hx hb dL_law_1056 (by decide) ?_
  refine z_sld (pc := 1057) (v := (xs 3)) hx hb hX hbl hbA hT 3 rfl (by decide) rfl dL_law_1057 ?_
  refine lv_aload_n (pc := 1058) hx hb dL_law_1058 rfl (lv_at hl 3 rfl) ?_
  refine z_eHI (pc := 1059) zE_ok hE hx hb hml hown hts hK hA hT lkH_RL_141 ((k869_L_worst l G cy hl0 h0 h1 h4 h5 h6 h7 h8 h9 h10 h11 h12 h13 h14 (xs 1) (xs 2) (xs 3) hb1 hb2).e) [0, 1] [2, 3] rfl rfl rfl rfl rfl (by decide) rfl hl.1 rfl (Nat.le_of_ble_eq_true rfl) dL_law_1059 ⟨Nat.le_of_ble_eq_true rfl, Nat.le_of_ble_eq_true rfl⟩ (fun _ => [(h2, .inr (12, [.int 0, .ref h3, .int 0, .int 0, .int 0, .int (-1), .int 0, .int 0, .ref h15, .ref h16, .ref h17, .ref h18, .int 0, .ref h19, .ref h20, .int 0, .ref h21, .ref h22, .ref h23, .ref h24, .ref h25, .int 0, .ref h26, .ref h27, .ref h28, .int 0, .ref h29, .ref h30, .ref h31, .int 0, .int 0, .ref h32, .ref h33, .ref h34, .int 0, .long 0, .long 0, .ref h35, .ref h36, .ref h37, .ref h38, .ref h39, .ref h40, .ref h41, .ref h42, .ref h43, .ref h44, .int 0, .int 0, .ref h45, .ref h46, .ref h47, .ref h48, .ref h49, .ref h50, .ref h51, .ref h52, .ref h53, .int 0, .int 0, .int 0, .int 0, .long 0, .ref h54, .ref h55, .ref h56, .int 0, .int 0, .long 0])), (h3, .inl (cy 0, 3, .inl (kc 0)))]) (fun _ => rfl) (fun qs1 H locs hT => ?_)
  refine lv_istore (pc := 1062) (lv' := [(5, .int 1), (0, .ref b), (1, .ref h0), (2, .ref h2), (3, .ref h4), (4, .int 0)]) hx hb dL_law_1062 hl (by decide) rfl (fun ls hl => ?_)
  refine lv_aload_n (pc := 1064) hx hb dL_law_1064 rfl (lv_at hl 3 rfl) ?_
  refine lv_aload_n (pc := 1065) hx hb dL_law_1065 rfl (lv_at hl 1 rfl) ?_
  refine lv_iload (pc := 1066) hx hb dL_law_1066 (lv_at hl 5 rfl) ?_
  refine lv_iconst (pc := 1068) (v := 1) hx hb dL_law_1068 (by decide) ?_
  refine z_iadd (pc := 1069) (v := 1) hx hb dL_law_1069 (by decide) ?_
  refine z_sld (pc := 1070) (v := (xs 1)) hx hb hX hbl hbA hT 1 rfl (by decide) rfl dL_law_1070 ?_
  refine lv_aload_n (pc := 1071) hx hb dL_law_1071 rfl (lv_at hl 1 rfl) ?_
  refine lv_iload (pc := 1072) hx hb dL_law_1072 (lv_at hl 5 rfl) ?_
  refine lv_iconst (pc := 1074) (v := 2) hx hb dL_law_1074 (by decide) ?_
  refine z_iadd (pc := 1075) (v := 2) hx hb dL_law_1075 (by decide) ?_
  refine z_sld (pc := 1076) (v := (xs 2)) hx hb hX hbl hbA hT 2 rfl (by decide) rfl dL_law_1076 ?_
  refine lv_aload_n (pc := 1077) hx hb dL_law_1077 rfl (lv_at hl 1 rfl) ?_
  refine lv_iload (pc := 1078) hx hb dL_law_1078 (lv_at hl 5 rfl) ?_
  refine lv_iconst (pc := 1080) (v := 3) hx hb dL_law_1080 (by decide) ?_
  refine z_iadd (pc := 1081) (v := 3) hx hb dL_law_1081 (by decide) ?_
  refine z_sld (pc := 1082) (v := (xs 3)) hx hb hX hbl hbA hT 3 rfl (by decide) rfl dL_law_1082 ?_
  refine z_cVI (pc := 1083) hx hb hml hown hts hK hA hT lkV_RL_143 (k718_X12_worst l G cy h2 h3 h15 h16 h17 h18 h19 h20 h21 h22 h23 h24 h25 h26 h27 h28 h29 h30 h31 h32 h33 h34 h35 h36 h37 h38 h39 h40 h41 h42 h43 h44 h45 h46 h47 h48 h49 h50 h51 h52 h53 h54 h55 h56 (xs 1) (xs 2) (xs 3) hb1 hb3) [0, 1] [] rfl rfl rfl rfl rfl 0 rfl rfl (by decide) rfl hl.1 rfl (Nat.le_of_ble_eq_true rfl) dL_law_1083 ⟨Nat.le_of_ble_eq_true rfl, Nat.le_of_ble_eq_true rfl⟩ (fun _ => [(h2, .inr (12, [.int 1, .ref h3, .int 0, .int 0, .int 0, .int (-1), .int 0, .int 0, .ref h15, .ref h16, .ref h17, .ref h18, .int 0, .ref h19, .ref h20, .int 0, .ref h21, .ref h22, .ref h23, .ref h24, .ref h25, .int 0, .ref h26, .ref h27, .ref h28, .int 0, .ref h29, .ref h30, .ref h31, .int 0, .int 0, .ref h32, .ref h33, .ref h34, .int 0, .long 0, .long 0, .ref h35, .ref h36, .ref h37, .ref h38, .ref h39, .ref h40, .ref h41, .ref h42, .ref h43, .ref h44, .int 0, .int 0, .ref h45, .ref h46, .ref h47, .ref h48, .ref h49, .ref h50, .ref h51, .ref h52, .ref h53, .int 0, .int 0, .int 0, .int 0, .long 0, .ref h54, .ref h55, .ref h56, .int 0, .int 0, .long 0]))]) (fun _ => rfl) (fun qs2 H locs hT => ?_)
  refine lv_istore (pc := 1086) (lv' := [(6, .int 0), (5, .int 1), (0, .ref b), (1, .ref h0), (2, .ref h2), (3, .ref h4), (4, .int 0)]) hx hb dL_law_1086 hl (by decide) rfl (fun ls hl => ?_)
  refine lv_aload_n (pc := 1088) hx hb dL_law_1088 rfl (lv_at hl 4 rfl) ?_
  refine z_cVI (pc := 1089) hx hb hml hown hts hK hA hT lkV_RL_96 (k1051_X12_thrown l G cy h2 h3 h15 h16 h17 h18 h19 h20 h21 h22 h23 h24 h25 h26 h27 h28 h29 h30 h31 h32 h33 h34 h35 h36 h37 h38 h39 h40 h41 h42 h43 h44 h45 h46 h47 h48 h49 h50 h51 h52 h53 h54 h55 h56) [0] [] rfl rfl rfl rfl rfl 0 rfl rfl (by decide) rfl hl.1 rfl (Nat.le_of_ble_eq_true rfl) dL_law_1089 ⟨Nat.le_of_ble_eq_true rfl, Nat.le_of_ble_eq_true rfl⟩ (fun _ => [(h2, .inr (12, [.int 1, .ref h3, .int 0, .int 0, .int 0, .int (-1), .int 0, .int 0, .ref h15, .ref h16, .ref h17, .ref h18, .int 0, .ref h19, .ref h20, .int 0, .ref h21, .ref h22, .ref h23, .ref h24, .ref h25, .int 0, .ref h26, .ref h27, .ref h28, .int 0, .ref h29, .ref h30, .ref h31, .int 0, .int 0, .ref h32, .ref h33, .ref h34, .int 0, .long 0, .long 0, .ref h35, .ref h36, .ref h37, .ref h38, .ref h39, .ref h40, .ref h41, .ref h42, .ref h43, .ref h44, .int 0, .int 0, .ref h45, .ref h46, .ref h47, .ref h48, .ref h49, .ref h50, .ref h51, .ref h52, .ref h53, .int 0, .int 0, .int 0, .int 0, .long 0, .ref h54, .ref h55, .ref h56, .int 0, .int 0, .long 0]))]) (fun _ => rfl) (fun qs3 H locs hT => ?_)
  refine lv_iload (pc := 1092) hx hb dL_law_1092 (lv_at hl 1 rfl) ?_
  refine zb_icmp_eq_t (pc := 1094) (tgt := 1099) hx hb dL_law_1094 (by decide) (by decide) ?_
  refine lv_iload (pc := 1099) hx hb dL_law_1099 (lv_at hl 1 rfl) ?_
  refine zb_if_ne_t (pc := 1101) (tgt := 1116) hx hb dL_law_1101 (by decide) (by decide) ?_
  refine lv_goto (pc := 1116) (tgt := 1719) hx hb dL_law_1116 (by decide) ?_
  exact q_end hx hb hr hlk hX hbl hT (lv_sub hl [2, 6] rfl) (Nat.le_of_ble_eq_true rfl) (Nat.le_of_ble_eq_true rfl)
set_option maxHeartbeats 4000000 in
set_option maxRecDepth 100000 in
theorem q_worst_1_neg {p : Program} {l : Launch} {e : Env} {s : State} {m : MethodId} {below : List Frame} {meth : Method} {c : Code} {H : Heap} {locs : List Loc} {ls : Array Slot} {G : va_G} {cy : Nat → ClassId} {b : Nat} {xs : Nat → Int32} (C : zC l G cy p s m meth c b 6 xs) (h0 h1 h2 h3 h4 h5 h6 h7 h8 h9 h10 h11 h12 h13 h14 h15 h16 h17 h18 h19 h20 h21 h22 h23 h24 h25 h26 h27 h28 h29 h30 h31 h32 h33 h34 h35 h36 h37 h38 h39 h40 h41 h42 h43 h44 h45 h46 h47 h48 h49 h50 h51 h52 h53 h54 h55 h56 : Nat) (j : Nat) (hloj : 0 ≤ j) (hhij : j < 6) (hs1 : xs 1 = (nI j)) (hneg : ((xs 2) : Int32) < 0) (hT : zT G (fun q => s.heap.size ≤ q) s.heap H locs [(h0, .inr (11, [.ref h5, .ref h6, .ref h7, .ref h8, .ref h9, .ref h10, .ref h11, .ref h12, .ref h13, .ref h14, .ref h1, .int (-1), .int (-1), .int (-1), .int (-1)])), (h1, .inl (cy 0, 3, .inl (kc 0))), (h2, .inr (12, [.int 0, .ref h3, .int 0, .int 0, .int 0, .int (-1), .int 0, .int 0, .ref h15, .ref h16, .ref h17, .ref h18, .int 0, .ref h19, .ref h20, .int 0, .ref h21, .ref h22, .ref h23, .ref h24, .ref h25, .int 0, .ref h26, .ref h27, .ref h28, .int 0, .ref h29, .ref h30, .ref h31, .int 0, .int 0, .ref h32, .ref h33, .ref h34, .int 0, .long 0, .long 0, .ref h35, .ref h36, .ref h37, .ref h38, .ref h39, .ref h40, .ref h41, .ref h42, .ref h43, .ref h44, .int 0, .int 0, .ref h45, .ref h46, .ref h47, .ref h48, .ref h49, .ref h50, .ref h51, .ref h52, .ref h53, .int 0, .int 0, .int 0, .int 0, .long 0, .ref h54, .ref h55, .ref h56, .int 0, .int 0, .long 0])), (h3, .inl (cy 0, 3, .inl (kc 0)))]) (hl : lv_has ls 8 [(0, .ref b), (1, .ref h0), (2, .ref h2), (3, .ref h4), (4, .int 0)]) : W p l e (zR 1000 600002 7302232) s m #[Value.ref b] below meth c H locs 476 284354 (lw_Z below #[Value.ref b] s) (F0 m 1039 ls []) := by
  obtain ⟨hl0, hx, hb, hr, hml, hown, hts, hX, hbl, hlk, hK, hE, q1, v1, q2, v2, hS⟩ := C
  have hA : ∀ q : Nat, s.heap.size ≤ q → (fun q => s.heap.size ≤ q) q := fun _ h => h
  have hbA : ¬ (fun q => s.heap.size ≤ q) b := Nat.not_le.mpr hbl
  refine lv_aload_n (pc := 1039) hx hb dL_law_1039 rfl (lv_at hl 1 rfl) ?_
  refine lv_aload_n (pc := 1040) hx hb dL_law_1040 rfl (lv_at hl 0 rfl) ?_
  refine lv_iload (pc := 1041) hx hb dL_law_1041 (lv_at hl 4 rfl) ?_
  refine lv_iconst (pc := 1043) (v := 1) hx hb dL_law_1043 (by decide) ?_
  refine z_iadd (pc := 1044) (v := 1) hx hb dL_law_1044 (by decide) ?_
  refine z_sld (pc := 1045) (v := (nI j)) hx hb hX hbl hbA hT 1 rfl (by decide) hs1 dL_law_1045 ?_
  refine lv_aload_n (pc := 1046) hx hb dL_law_1046 rfl (lv_at hl 0 rfl) ?_
  refine lv_iload (pc := 1047) hx hb dL_law_1047 (lv_at hl 4 rfl) ?_
  refine lv_iconst (pc := 1049) (v := 2) hx hb dL_law_1049 (by decide) ?_
  refine z_iadd (pc := 1050) (v := 2) hx hb dL_law_1050 (by decide) ?_
  refine z_sld (pc := 1051) (v := (xs 2)) hx hb hX hbl hbA hT 2 rfl (by decide) rfl dL_law_1051 ?_
  refine lv_aload_n (pc := 1052) hx hb dL_law_1052 rfl (lv_at hl 0 rfl) ?_
  refine lv_iload (pc := 1053) hx hb dL_law_1053 (lv_at hl 4 rfl) ?_
  refine lv_iconst (pc := 1055) (v := 3) hx hb dL_law_1055 (by decide) ?_
  refine z_iadd (pc := 1056) (v := 3) hx hb dL_law_1056 (by decide) ?_
  refine z_sld (pc := 1057) (v := (xs 3)) hx hb hX hbl hbA hT 3 rfl (by decide) rfl dL_law_1057 ?_
  refine lv_aload_n (pc := 1058) hx hb dL_law_1058 rfl (lv_at hl 3 rfl) ?_
  refine z_eHI (pc := 1059) zE_ok hE hx hb hml hown hts hK hA hT lkH_RL_141 ((k870_L_worst l G cy hl0 h0 h1 h4 h5 h6 h7 h8 h9 h10 h11 h12 h13 h14 (xs 2) (xs 3) j (by omega) (by omega) hneg).e) [0, 1] [2, 3] rfl rfl rfl rfl rfl (by decide) rfl hl.1 rfl (Nat.le_of_ble_eq_true rfl) dL_law_1059 ⟨Nat.le_of_ble_eq_true rfl, Nat.le_of_ble_eq_true rfl⟩ (fun _ => [(h2, .inr (12, [.int 0, .ref h3, .int 0, .int 0, .int 0, .int (-1), .int 0, .int 0, .ref h15, .ref h16, .ref h17, .ref h18, .int 0, .ref h19, .ref h20, .int 0, .ref h21, .ref h22, .ref h23, .ref h24, .ref h25, .int 0, .ref h26, .ref h27, .ref h28, .int 0, .ref h29, .ref h30, .ref h31, .int 0, .int 0, .ref h32, .ref h33, .ref h34, .int 0, .long 0, .long 0, .ref h35, .ref h36, .ref h37, .ref h38, .ref h39, .ref h40, .ref h41, .ref h42, .ref h43, .ref h44, .int 0, .int 0, .ref h45, .ref h46, .ref h47, .ref h48, .ref h49, .ref h50, .ref h51, .ref h52, .ref h53, .int 0, .int 0, .int 0, .int 0, .long 0, .ref h54, .ref h55, .ref h56, .int 0, .int 0, .long 0])), (h3, .inl (cy 0, 3, .inl (kc 0)))]) (fun _ => rfl) (fun qs1 H locs hT => ?_)
  refine lv_istore (pc := 1062) (lv' := [(5, .int 2), (0, .ref b), (1, .ref h0), (2, .ref h2), (3, .ref h4), (4, .int 0)]) hx hb dL_law_1062 hl (by decide) rfl (fun ls hl => ?_)
  refine lv_aload_n (pc := 1064) hx hb dL_law_1064 rfl (lv_at hl 3 rfl) ?_
  refine lv_aload_n (pc := 1065) hx hb dL_law_1065 rfl (lv_at hl 1 rfl) ?_
  refine lv_iload (pc := 1066) hx hb dL_law_1066 (lv_at hl 5 rfl) ?_
  refine lv_iconst (pc := 1068) (v := 1) hx hb dL_law_1068 (by decide) ?_
  refine z_iadd (pc := 1069) (v := 1) hx hb dL_law_1069 (by decide) ?_
  refine z_sld (pc := 1070) (v := (nI j)) hx hb hX hbl hbA hT 1 rfl (by decide) hs1 dL_law_1070 ?_
  refine lv_aload_n (pc := 1071) hx hb dL_law_1071 rfl (lv_at hl 1 rfl) ?_
  refine lv_iload (pc := 1072) hx hb dL_law_1072 (lv_at hl 5 rfl) ?_
  refine lv_iconst (pc := 1074) (v := 2) hx hb dL_law_1074 (by decide) ?_
  refine z_iadd (pc := 1075) (v := 2) hx hb dL_law_1075 (by decide) ?_
  refine z_sld (pc := 1076) (v := (xs 2)) hx hb hX hbl hbA hT 2 rfl (by decide) rfl dL_law_1076 ?_
  refine lv_aload_n (pc := 1077) hx hb dL_law_1077 rfl (lv_at hl 1 rfl) ?_
  refine lv_iload (pc := 1078) hx hb dL_law_1078 (lv_at hl 5 rfl) ?_
  refine lv_iconst (pc := 1080) (v := 3) hx hb dL_law_1080 (by decide) ?_
  refine z_iadd (pc := 1081) (v := 3) hx hb dL_law_1081 (by decide) ?_
  refine z_sld (pc := 1082) (v := (xs 3)) hx hb hX hbl hbA hT 3 rfl (by decide) rfl dL_law_1082 ?_
  refine z_cVI (pc := 1083) hx hb hml hown hts hK hA hT lkV_RL_143 (k719_X12_worst l G cy h2 h3 h15 h16 h17 h18 h19 h20 h21 h22 h23 h24 h25 h26 h27 h28 h29 h30 h31 h32 h33 h34 h35 h36 h37 h38 h39 h40 h41 h42 h43 h44 h45 h46 h47 h48 h49 h50 h51 h52 h53 h54 h55 h56 (xs 2) (xs 3) j (by omega) (by omega) hneg) [0, 1] [] rfl rfl rfl rfl rfl 0 rfl rfl (by decide) rfl hl.1 rfl (Nat.le_of_ble_eq_true rfl) dL_law_1083 ⟨Nat.le_of_ble_eq_true rfl, Nat.le_of_ble_eq_true rfl⟩ (fun _ => [(h2, .inr (12, [.int 2, .ref h3, .int 0, .int 0, .int 0, .int (-1), .int 0, .int 0, .ref h15, .ref h16, .ref h17, .ref h18, .int 0, .ref h19, .ref h20, .int 0, .ref h21, .ref h22, .ref h23, .ref h24, .ref h25, .int 0, .ref h26, .ref h27, .ref h28, .int 0, .ref h29, .ref h30, .ref h31, .int 0, .int 0, .ref h32, .ref h33, .ref h34, .int 0, .long 0, .long 0, .ref h35, .ref h36, .ref h37, .ref h38, .ref h39, .ref h40, .ref h41, .ref h42, .ref h43, .ref h44, .int 0, .int 0, .ref h45, .ref h46, .ref h47, .ref h48, .ref h49, .ref h50, .ref h51, .ref h52, .ref h53, .int 0, .int 0, .int 0, .int 0, .long 0, .ref h54, .ref h55, .ref h56, .int 0, .int 0, .long 0]))]) (fun _ => rfl) (fun qs2 H locs hT => ?_)
  refine lv_istore (pc := 1086) (lv' := [(6, .int 0), (5, .int 2), (0, .ref b), (1, .ref h0), (2, .ref h2), (3, .ref h4), (4, .int 0)]) hx hb dL_law_1086 hl (by decide) rfl (fun ls hl => ?_)
  refine lv_aload_n (pc := 1088) hx hb dL_law_1088 rfl (lv_at hl 4 rfl) ?_
  refine z_cVI (pc := 1089) hx hb hml hown hts hK hA hT lkV_RL_96 (k1052_X12_thrown l G cy h2 h3 h15 h16 h17 h18 h19 h20 h21 h22 h23 h24 h25 h26 h27 h28 h29 h30 h31 h32 h33 h34 h35 h36 h37 h38 h39 h40 h41 h42 h43 h44 h45 h46 h47 h48 h49 h50 h51 h52 h53 h54 h55 h56) [0] [] rfl rfl rfl rfl rfl 0 rfl rfl (by decide) rfl hl.1 rfl (Nat.le_of_ble_eq_true rfl) dL_law_1089 ⟨Nat.le_of_ble_eq_true rfl, Nat.le_of_ble_eq_true rfl⟩ (fun _ => [(h2, .inr (12, [.int 2, .ref h3, .int 0, .int 0, .int 0, .int (-1), .int 0, .int 0, .ref h15, .ref h16, .ref h17, .ref h18, .int 0, .ref h19, .ref h20, .int 0, .ref h21, .ref h22, .ref h23, .ref h24, .ref h25, .int 0, .ref h26, .ref h27, .ref h28, .int 0, .ref h29, .ref h30, .ref h31, .int 0, .int 0, .ref h32, .ref h33, .ref h34, .int 0, .long 0, .long 0, .ref h35, .ref h36, .ref h37, .ref h38, .ref h39, .ref h40, .ref h41, .ref h42, .ref h43, .ref h44, .int 0, .int 0, .ref h45, .ref h46, .ref h47, .ref h48, .ref h49, .ref h50, .ref h51, .ref h52, .ref h53, .int 0, .int 0, .int 0, .int 0, .long 0, .ref h54, .ref h55, .ref h56, .int 0, .int 0, .long 0]))]) (fun _ => rfl) (fun qs3 H locs hT => ?_)
  refine lv_iload (pc := 1092) hx hb dL_law_1092 (lv_at hl 1 rfl) ?_
  refine zb_icmp_eq_t (pc := 1094) (tgt := 1099) hx hb dL_law_1094 (by decide) (by decide) ?_
  refine lv_iload (pc := 1099) hx hb dL_law_1099 (lv_at hl 1 rfl) ?_
  refine zb_if_ne_t (pc := 1101) (tgt := 1116) hx hb dL_law_1101 (by decide) (by decide) ?_
  refine lv_goto (pc := 1116) (tgt := 1719) hx hb dL_law_1116 (by decide) ?_
  exact q_end hx hb hr hlk hX hbl hT (lv_sub hl [2, 6] rfl) (Nat.le_of_ble_eq_true rfl) (Nat.le_of_ble_eq_true rfl)
set_option maxHeartbeats 4000000 in
set_option maxRecDepth 100000 in
theorem q_worst_1_big {p : Program} {l : Launch} {e : Env} {s : State} {m : MethodId} {below : List Frame} {meth : Method} {c : Code} {H : Heap} {locs : List Loc} {ls : Array Slot} {G : va_G} {cy : Nat → ClassId} {b : Nat} {xs : Nat → Int32} (C : zC l G cy p s m meth c b 6 xs) (h0 h1 h2 h3 h4 h5 h6 h7 h8 h9 h10 h11 h12 h13 h14 h15 h16 h17 h18 h19 h20 h21 h22 h23 h24 h25 h26 h27 h28 h29 h30 h31 h32 h33 h34 h35 h36 h37 h38 h39 h40 h41 h42 h43 h44 h45 h46 h47 h48 h49 h50 h51 h52 h53 h54 h55 h56 : Nat) (j : Nat) (hloj : 0 ≤ j) (hhij : j < 6) (hs1 : xs 1 = (nI j)) (hb1 : ¬ ((xs 2) : Int32) < 0) (hb2 : (8 : Int32) < (xs 2)) (hT : zT G (fun q => s.heap.size ≤ q) s.heap H locs [(h0, .inr (11, [.ref h5, .ref h6, .ref h7, .ref h8, .ref h9, .ref h10, .ref h11, .ref h12, .ref h13, .ref h14, .ref h1, .int (-1), .int (-1), .int (-1), .int (-1)])), (h1, .inl (cy 0, 3, .inl (kc 0))), (h2, .inr (12, [.int 0, .ref h3, .int 0, .int 0, .int 0, .int (-1), .int 0, .int 0, .ref h15, .ref h16, .ref h17, .ref h18, .int 0, .ref h19, .ref h20, .int 0, .ref h21, .ref h22, .ref h23, .ref h24, .ref h25, .int 0, .ref h26, .ref h27, .ref h28, .int 0, .ref h29, .ref h30, .ref h31, .int 0, .int 0, .ref h32, .ref h33, .ref h34, .int 0, .long 0, .long 0, .ref h35, .ref h36, .ref h37, .ref h38, .ref h39, .ref h40, .ref h41, .ref h42, .ref h43, .ref h44, .int 0, .int 0, .ref h45, .ref h46, .ref h47, .ref h48, .ref h49, .ref h50, .ref h51, .ref h52, .ref h53, .int 0, .int 0, .int 0, .int 0, .long 0, .ref h54, .ref h55, .ref h56, .int 0, .int 0, .long 0])), (h3, .inl (cy 0, 3, .inl (kc 0)))]) (hl : lv_has ls 8 [(0, .ref b), (1, .ref h0), (2, .ref h2), (3, .ref h4), (4, .int 0)]) : W p l e (zR 1000 600002 7302232) s m #[Value.ref b] below meth c H locs 476 284354 (lw_Z below #[Value.ref b] s) (F0 m 1039 ls []) := by
  obtain ⟨hl0, hx, hb, hr, hml, hown, hts, hX, hbl, hlk, hK, hE, q1, v1, q2, v2, hS⟩ := C
  have hA : ∀ q : Nat, s.heap.size ≤ q → (fun q => s.heap.size ≤ q) q := fun _ h => h
  have hbA : ¬ (fun q => s.heap.size ≤ q) b := Nat.not_le.mpr hbl
  refine lv_aload_n (pc := 1039) hx hb dL_law_1039 rfl (lv_at hl 1 rfl) ?_
  refine lv_aload_n (pc := 1040) hx hb dL_law_1040 rfl (lv_at hl 0 rfl) ?_
  refine lv_iload (pc := 1041) hx hb dL_law_1041 (lv_at hl 4 rfl) ?_
  refine lv_iconst (pc := 1043) (v := 1) hx hb dL_law_1043 (by decide) ?_
  refine z_iadd (pc := 1044) (v := 1) hx hb dL_law_1044 (by decide) ?_
  refine z_sld (pc := 1045) (v := (nI j)) hx hb hX hbl hbA hT 1 rfl (by decide) hs1 dL_law_1045 ?_
  refine lv_aload_n (pc := 1046) hx hb dL_law_1046 rfl (lv_at hl 0 rfl) ?_
  refine lv_iload (pc := 1047) hx hb dL_law_1047 (lv_at hl 4 rfl) ?_
  refine lv_iconst (pc := 1049) (v := 2) hx hb dL_law_1049 (by decide) ?_
  refine z_iadd (pc := 1050) (v := 2) hx hb dL_law_1050 (by decide) ?_
  refine z_sld (pc := 1051) (v := (xs 2)) hx hb hX hbl hbA hT 2 rfl (by decide) rfl dL_law_1051 ?_
  refine lv_aload_n (pc := 1052) hx hb dL_law_1052 rfl (lv_at hl 0 rfl) ?_
  refine lv_iload (pc := 1053) hx hb dL_law_1053 (lv_at hl 4 rfl) ?_
  refine lv_iconst (pc := 1055) (v := 3) hx hb dL_law_1055 (by decide) ?_
  refine z_iadd (pc := 1056) (v := 3) hx hb dL_law_1056 (by decide) ?_
  refine z_sld (pc := 1057) (v := (xs 3)) hx hb hX hbl hbA hT 3 rfl (by decide) rfl dL_law_1057 ?_
  refine lv_aload_n (pc := 1058) hx hb dL_law_1058 rfl (lv_at hl 3 rfl) ?_
  refine z_eHI (pc := 1059) zE_ok hE hx hb hml hown hts hK hA hT lkH_RL_141 ((k871_L_worst l G cy hl0 h0 h1 h4 h5 h6 h7 h8 h9 h10 h11 h12 h13 h14 (xs 2) (xs 3) j (by omega) (by omega) hb1 hb2).e) [0, 1] [2, 3] rfl rfl rfl rfl rfl (by decide) rfl hl.1 rfl (Nat.le_of_ble_eq_true rfl) dL_law_1059 ⟨Nat.le_of_ble_eq_true rfl, Nat.le_of_ble_eq_true rfl⟩ (fun _ => [(h2, .inr (12, [.int 0, .ref h3, .int 0, .int 0, .int 0, .int (-1), .int 0, .int 0, .ref h15, .ref h16, .ref h17, .ref h18, .int 0, .ref h19, .ref h20, .int 0, .ref h21, .ref h22, .ref h23, .ref h24, .ref h25, .int 0, .ref h26, .ref h27, .ref h28, .int 0, .ref h29, .ref h30, .ref h31, .int 0, .int 0, .ref h32, .ref h33, .ref h34, .int 0, .long 0, .long 0, .ref h35, .ref h36, .ref h37, .ref h38, .ref h39, .ref h40, .ref h41, .ref h42, .ref h43, .ref h44, .int 0, .int 0, .ref h45, .ref h46, .ref h47, .ref h48, .ref h49, .ref h50, .ref h51, .ref h52, .ref h53, .int 0, .int 0, .int 0, .int 0, .long 0, .ref h54, .ref h55, .ref h56, .int 0, .int 0, .long 0])), (h3, .inl (cy 0, 3, .inl (kc 0)))]) (fun _ => rfl) (fun qs1 H locs hT => ?_)
  refine lv_istore (pc := 1062) (lv' := [(5, .int 2), (0, .ref b), (1, .ref h0), (2, .ref h2), (3, .ref h4), (4, .int 0)]) hx hb dL_law_1062 hl (by decide) rfl (fun ls hl => ?_)
  refine lv_aload_n (pc := 1064) hx hb dL_law_1064 rfl (lv_at hl 3 rfl) ?_
  refine lv_aload_n (pc := 1065) hx hb dL_law_1065 rfl (lv_at hl 1 rfl) ?_
  refine lv_iload (pc := 1066) hx hb dL_law_1066 (lv_at hl 5 rfl) ?_
  refine lv_iconst (pc := 1068) (v := 1) hx hb dL_law_1068 (by decide) ?_
  refine z_iadd (pc := 1069) (v := 1) hx hb dL_law_1069 (by decide) ?_
  refine z_sld (pc := 1070) (v := (nI j)) hx hb hX hbl hbA hT 1 rfl (by decide) hs1 dL_law_1070 ?_
  refine lv_aload_n (pc := 1071) hx hb dL_law_1071 rfl (lv_at hl 1 rfl) ?_
  refine lv_iload (pc := 1072) hx hb dL_law_1072 (lv_at hl 5 rfl) ?_
  refine lv_iconst (pc := 1074) (v := 2) hx hb dL_law_1074 (by decide) ?_
  refine z_iadd (pc := 1075) (v := 2) hx hb dL_law_1075 (by decide) ?_
  refine z_sld (pc := 1076) (v := (xs 2)) hx hb hX hbl hbA hT 2 rfl (by decide) rfl dL_law_1076 ?_
  refine lv_aload_n (pc := 1077) hx hb dL_law_1077 rfl (lv_at hl 1 rfl) ?_
  refine lv_iload (pc := 1078) hx hb dL_law_1078 (lv_at hl 5 rfl) ?_
  refine lv_iconst (pc := 1080) (v := 3) hx hb dL_law_1080 (by decide) ?_
  refine z_iadd (pc := 1081) (v := 3) hx hb dL_law_1081 (by decide) ?_
  refine z_sld (pc := 1082) (v := (xs 3)) hx hb hX hbl hbA hT 3 rfl (by decide) rfl dL_law_1082 ?_
  refine z_cVI (pc := 1083) hx hb hml hown hts hK hA hT lkV_RL_143 (k720_X12_worst l G cy h2 h3 h15 h16 h17 h18 h19 h20 h21 h22 h23 h24 h25 h26 h27 h28 h29 h30 h31 h32 h33 h34 h35 h36 h37 h38 h39 h40 h41 h42 h43 h44 h45 h46 h47 h48 h49 h50 h51 h52 h53 h54 h55 h56 (xs 2) (xs 3) j (by omega) (by omega) hb1 hb2) [0, 1] [] rfl rfl rfl rfl rfl 0 rfl rfl (by decide) rfl hl.1 rfl (Nat.le_of_ble_eq_true rfl) dL_law_1083 ⟨Nat.le_of_ble_eq_true rfl, Nat.le_of_ble_eq_true rfl⟩ (fun _ => [(h2, .inr (12, [.int 2, .ref h3, .int 0, .int 0, .int 0, .int (-1), .int 0, .int 0, .ref h15, .ref h16, .ref h17, .ref h18, .int 0, .ref h19, .ref h20, .int 0, .ref h21, .ref h22, .ref h23, .ref h24, .ref h25, .int 0, .ref h26, .ref h27, .ref h28, .int 0, .ref h29, .ref h30, .ref h31, .int 0, .int 0, .ref h32, .ref h33, .ref h34, .int 0, .long 0, .long 0, .ref h35, .ref h36, .ref h37, .ref h38, .ref h39, .ref h40, .ref h41, .ref h42, .ref h43, .ref h44, .int 0, .int 0, .ref h45, .ref h46, .ref h47, .ref h48, .ref h49, .ref h50, .ref h51, .ref h52, .ref h53, .int 0, .int 0, .int 0, .int 0, .long 0, .ref h54, .ref h55, .ref h56, .int 0, .int 0, .long 0]))]) (fun _ => rfl) (fun qs2 H locs hT => ?_)
  refine lv_istore (pc := 1086) (lv' := [(6, .int 0), (5, .int 2), (0, .ref b), (1, .ref h0), (2, .ref h2), (3, .ref h4), (4, .int 0)]) hx hb dL_law_1086 hl (by decide) rfl (fun ls hl => ?_)
  refine lv_aload_n (pc := 1088) hx hb dL_law_1088 rfl (lv_at hl 4 rfl) ?_
  refine z_cVI (pc := 1089) hx hb hml hown hts hK hA hT lkV_RL_96 (k1052_X12_thrown l G cy h2 h3 h15 h16 h17 h18 h19 h20 h21 h22 h23 h24 h25 h26 h27 h28 h29 h30 h31 h32 h33 h34 h35 h36 h37 h38 h39 h40 h41 h42 h43 h44 h45 h46 h47 h48 h49 h50 h51 h52 h53 h54 h55 h56) [0] [] rfl rfl rfl rfl rfl 0 rfl rfl (by decide) rfl hl.1 rfl (Nat.le_of_ble_eq_true rfl) dL_law_1089 ⟨Nat.le_of_ble_eq_true rfl, Nat.le_of_ble_eq_true rfl⟩ (fun _ => [(h2, .inr (12, [.int 2, .ref h3, .int 0, .int 0, .int 0, .int (-1), .int 0, .int 0, .ref h15, .ref h16, .ref h17, .ref h18, .int 0, .ref h19, .ref h20, .int 0, .ref h21, .ref h22, .ref h23, .ref h24, .ref h25, .int 0, .ref h26, .ref h27, .ref h28, .int 0, .ref h29, .ref h30, .ref h31, .int 0, .int 0, .ref h32, .ref h33, .ref h34, .int 0, .long 0, .long 0, .ref h35, .ref h36, .ref h37, .ref h38, .ref h39, .ref h40, .ref h41, .ref h42, .ref h43, .ref h44, .int 0, .int 0, .ref h45, .ref h46, .ref h47, .ref h48, .ref h49, .ref h50, .ref h51, .ref h52, .ref h53, .int 0, .int 0, .int 0, .int 0, .long 0, .ref h54, .ref h55, .ref h56, .int 0, .int 0, .long 0]))]) (fun _ => rfl) (fun qs3 H locs hT => ?_)
  refine lv_iload (pc := 1092) hx hb dL_law_1092 (lv_at hl 1 rfl) ?_
  refine zb_icmp_eq_t (pc := 1094) (tgt := 1099) hx hb dL_law_1094 (by decide) (by decide) ?_
  refine lv_iload (pc := 1099) hx hb dL_law_1099 (lv_at hl 1 rfl) ?_
  refine zb_if_ne_t (pc := 1101) (tgt := 1116) hx hb dL_law_1101 (by decide) (by decide) ?_
  refine lv_goto (pc := 1116) (tgt := 1719) hx hb dL_law_1116 (by decide) ?_
  exact q_end hx hb hr hlk hX hbl hT (lv_sub hl [2, 6] rfl) (Nat.le_of_ble_eq_true rfl) (Nat.le_of_ble_eq_true rfl)
set_option maxHeartbeats 4000000 in
set_option maxRecDepth 100000 in
theorem q_worst_2_neg {p : Program} {l : Launch} {e : Env} {s : State} {m : MethodId} {below : List Frame} {meth : Method} {c : Code} {H : Heap} {locs : List Loc} {ls : Array Slot} {G : va_G} {cy : Nat → ClassId} {b : Nat} {xs : Nat → Int32} (C : zC l G cy p s m meth c b 6 xs) (h0 h1 h2 h3 h4 h5 h6 h7 h8 h9 h10 h11 h12 h13 h14 h15 h16 h17 h18 h19 h20 h21 h22 h23 h24 h25 h26 h27 h28 h29 h30 h31 h32 h33 h34 h35 h36 h37 h38 h39 h40 h41 h42 h43 h44 h45 h46 h47 h48 h49 h50 h51 h52 h53 h54 h55 h56 : Nat) (j : Nat) (w1 : Nat) (hloj : 0 ≤ j) (hhij : j < 6) (hlow1 : 0 ≤ w1) (hhiw1 : w1 < 9) (hs1 : xs 1 = (nI j)) (hs2 : xs 2 = (nI w1)) (hneg : ((xs 3) : Int32) < 0) (hT : zT G (fun q => s.heap.size ≤ q) s.heap H locs [(h0, .inr (11, [.ref h5, .ref h6, .ref h7, .ref h8, .ref h9, .ref h10, .ref h11, .ref h12, .ref h13, .ref h14, .ref h1, .int (-1), .int (-1), .int (-1), .int (-1)])), (h1, .inl (cy 0, 3, .inl (kc 0))), (h2, .inr (12, [.int 0, .ref h3, .int 0, .int 0, .int 0, .int (-1), .int 0, .int 0, .ref h15, .ref h16, .ref h17, .ref h18, .int 0, .ref h19, .ref h20, .int 0, .ref h21, .ref h22, .ref h23, .ref h24, .ref h25, .int 0, .ref h26, .ref h27, .ref h28, .int 0, .ref h29, .ref h30, .ref h31, .int 0, .int 0, .ref h32, .ref h33, .ref h34, .int 0, .long 0, .long 0, .ref h35, .ref h36, .ref h37, .ref h38, .ref h39, .ref h40, .ref h41, .ref h42, .ref h43, .ref h44, .int 0, .int 0, .ref h45, .ref h46, .ref h47, .ref h48, .ref h49, .ref h50, .ref h51, .ref h52, .ref h53, .int 0, .int 0, .int 0, .int 0, .long 0, .ref h54, .ref h55, .ref h56, .int 0, .int 0, .long 0])), (h3, .inl (cy 0, 3, .inl (kc 0)))]) (hl : lv_has ls 8 [(0, .ref b), (1, .ref h0), (2, .ref h2), (3, .ref h4), (4, .int 0)]) : W p l e (zR 1000 600002 7302232) s m #[Value.ref b] below meth c H locs 476 284354 (lw_Z below #[Value.ref b] s) (F0 m 1039 ls []) := by
  obtain ⟨hl0, hx, hb, hr, hml, hown, hts, hX, hbl, hlk, hK, hE, q1, v1, q2, v2, hS⟩ := C
  have hA : ∀ q : Nat, s.heap.size ≤ q → (fun q => s.heap.size ≤ q) q := fun _ h => h
  have hbA : ¬ (fun q => s.heap.size ≤ q) b := Nat.not_le.mpr hbl
  refine lv_aload_n (pc := 1039) hx hb dL_law_1039 rfl (lv_at hl 1 rfl) ?_
  refine lv_aload_n (pc := 1040) hx hb dL_law_1040 rfl (lv_at hl 0 rfl) ?_
  refine lv_iload (pc := 1041) hx hb dL_law_1041 (lv_at hl 4 rfl) ?_
  refine lv_iconst (pc := 1043) (v := 1) hx hb dL_law_1043 (by decide) ?_
  refine z_iadd (pc := 1044) (v := 1) hx hb dL_law_1044 (by decide) ?_
  refine z_sld (pc := 1045) (v := (nI j)) hx hb hX hbl hbA hT 1 rfl (by decide) hs1 dL_law_1045 ?_
  refine lv_aload_n (pc := 1046) hx hb dL_law_1046 rfl (lv_at hl 0 rfl) ?_
  refine lv_iload (pc := 1047) hx hb dL_law_1047 (lv_at hl 4 rfl) ?_
  refine lv_iconst (pc := 1049) (v := 2) hx hb dL_law_1049 (by decide) ?_
  refine z_iadd (pc := 1050) (v := 2) hx hb dL_law_1050 (by decide) ?_
  refine z_sld (pc := 1051) (v := (nI w1)) hx hb hX hbl hbA hT 2 rfl (by decide) hs2 dL_law_1051 ?_
  refine lv_aload_n (pc := 1052) hx hb dL_law_1052 rfl (lv_at hl 0 rfl) ?_
  refine lv_iload (pc := 1053) hx hb dL_law_1053 (lv_at hl 4 rfl) ?_
  refine lv_iconst (pc := 1055) (v := 3) hx hb dL_law_1055 (by decide) ?_
  refine z_iadd (pc := 1056) (v := 3) hx hb dL_law_1056 (by decide) ?_
  refine z_sld (pc := 1057) (v := (xs 3)) hx hb hX hbl hbA hT 3 rfl (by decide) rfl dL_law_1057 ?_
  refine lv_aload_n (pc := 1058) hx hb dL_law_1058 rfl (lv_at hl 3 rfl) ?_
  refine z_eHI (pc := 1059) zE_ok hE hx hb hml hown hts hK hA hT lkH_RL_141 ((k872_L_worst l G cy hl0 h0 h1 h4 h5 h6 h7 h8 h9 h10 h11 h12 h13 h14 (xs 3) j w1 (by omega) (by omega) (by omega) (by omega) hneg).e) [0, 1] [2, 3] rfl rfl rfl rfl rfl (by decide) rfl hl.1 rfl (Nat.le_of_ble_eq_true rfl) dL_law_1059 ⟨Nat.le_of_ble_eq_true rfl, Nat.le_of_ble_eq_true rfl⟩ (fun _ => [(h2, .inr (12, [.int 0, .ref h3, .int 0, .int 0, .int 0, .int (-1), .int 0, .int 0, .ref h15, .ref h16, .ref h17, .ref h18, .int 0, .ref h19, .ref h20, .int 0, .ref h21, .ref h22, .ref h23, .ref h24, .ref h25, .int 0, .ref h26, .ref h27, .ref h28, .int 0, .ref h29, .ref h30, .ref h31, .int 0, .int 0, .ref h32, .ref h33, .ref h34, .int 0, .long 0, .long 0, .ref h35, .ref h36, .ref h37, .ref h38, .ref h39, .ref h40, .ref h41, .ref h42, .ref h43, .ref h44, .int 0, .int 0, .ref h45, .ref h46, .ref h47, .ref h48, .ref h49, .ref h50, .ref h51, .ref h52, .ref h53, .int 0, .int 0, .int 0, .int 0, .long 0, .ref h54, .ref h55, .ref h56, .int 0, .int 0, .long 0])), (h3, .inl (cy 0, 3, .inl (kc 0)))]) (fun _ => rfl) (fun qs1 H locs hT => ?_)
  refine lv_istore (pc := 1062) (lv' := [(5, .int 2), (0, .ref b), (1, .ref h0), (2, .ref h2), (3, .ref h4), (4, .int 0)]) hx hb dL_law_1062 hl (by decide) rfl (fun ls hl => ?_)
  refine lv_aload_n (pc := 1064) hx hb dL_law_1064 rfl (lv_at hl 3 rfl) ?_
  refine lv_aload_n (pc := 1065) hx hb dL_law_1065 rfl (lv_at hl 1 rfl) ?_
  refine lv_iload (pc := 1066) hx hb dL_law_1066 (lv_at hl 5 rfl) ?_
  refine lv_iconst (pc := 1068) (v := 1) hx hb dL_law_1068 (by decide) ?_
  refine z_iadd (pc := 1069) (v := 1) hx hb dL_law_1069 (by decide) ?_
  refine z_sld (pc := 1070) (v := (nI j)) hx hb hX hbl hbA hT 1 rfl (by decide) hs1 dL_law_1070 ?_
  refine lv_aload_n (pc := 1071) hx hb dL_law_1071 rfl (lv_at hl 1 rfl) ?_
  refine lv_iload (pc := 1072) hx hb dL_law_1072 (lv_at hl 5 rfl) ?_
  refine lv_iconst (pc := 1074) (v := 2) hx hb dL_law_1074 (by decide) ?_
  refine z_iadd (pc := 1075) (v := 2) hx hb dL_law_1075 (by decide) ?_
  refine z_sld (pc := 1076) (v := (nI w1)) hx hb hX hbl hbA hT 2 rfl (by decide) hs2 dL_law_1076 ?_
  refine lv_aload_n (pc := 1077) hx hb dL_law_1077 rfl (lv_at hl 1 rfl) ?_
  refine lv_iload (pc := 1078) hx hb dL_law_1078 (lv_at hl 5 rfl) ?_
  refine lv_iconst (pc := 1080) (v := 3) hx hb dL_law_1080 (by decide) ?_
  refine z_iadd (pc := 1081) (v := 3) hx hb dL_law_1081 (by decide) ?_
  refine z_sld (pc := 1082) (v := (xs 3)) hx hb hX hbl hbA hT 3 rfl (by decide) rfl dL_law_1082 ?_
  refine z_cVI (pc := 1083) hx hb hml hown hts hK hA hT lkV_RL_143 (k723_X12_worst l G cy h2 h3 h15 h16 h17 h18 h19 h20 h21 h22 h23 h24 h25 h26 h27 h28 h29 h30 h31 h32 h33 h34 h35 h36 h37 h38 h39 h40 h41 h42 h43 h44 h45 h46 h47 h48 h49 h50 h51 h52 h53 h54 h55 h56 (xs 3) j w1 (by omega) (by omega) (by omega) (by omega) hneg) [0, 1] [] rfl rfl rfl rfl rfl 0 rfl rfl (by decide) rfl hl.1 rfl (Nat.le_of_ble_eq_true rfl) dL_law_1083 ⟨Nat.le_of_ble_eq_true rfl, Nat.le_of_ble_eq_true rfl⟩ (fun _ => [(h2, .inr (12, [.int 2, .ref h3, .int 0, .int 0, .int 0, .int (-1), .int 0, .int 0, .ref h15, .ref h16, .ref h17, .ref h18, .int 0, .ref h19, .ref h20, .int 0, .ref h21, .ref h22, .ref h23, .ref h24, .ref h25, .int 0, .ref h26, .ref h27, .ref h28, .int 0, .ref h29, .ref h30, .ref h31, .int 0, .int 0, .ref h32, .ref h33, .ref h34, .int 0, .long 0, .long 0, .ref h35, .ref h36, .ref h37, .ref h38, .ref h39, .ref h40, .ref h41, .ref h42, .ref h43, .ref h44, .int 0, .int 0, .ref h45, .ref h46, .ref h47, .ref h48, .ref h49, .ref h50, .ref h51, .ref h52, .ref h53, .int 0, .int 0, .int 0, .int 0, .long 0, .ref h54, .ref h55, .ref h56, .int 0, .int 0, .long 0]))]) (fun _ => rfl) (fun qs2 H locs hT => ?_)
  refine lv_istore (pc := 1086) (lv' := [(6, .int 0), (5, .int 2), (0, .ref b), (1, .ref h0), (2, .ref h2), (3, .ref h4), (4, .int 0)]) hx hb dL_law_1086 hl (by decide) rfl (fun ls hl => ?_)
  refine lv_aload_n (pc := 1088) hx hb dL_law_1088 rfl (lv_at hl 4 rfl) ?_
  refine z_cVI (pc := 1089) hx hb hml hown hts hK hA hT lkV_RL_96 (k1052_X12_thrown l G cy h2 h3 h15 h16 h17 h18 h19 h20 h21 h22 h23 h24 h25 h26 h27 h28 h29 h30 h31 h32 h33 h34 h35 h36 h37 h38 h39 h40 h41 h42 h43 h44 h45 h46 h47 h48 h49 h50 h51 h52 h53 h54 h55 h56) [0] [] rfl rfl rfl rfl rfl 0 rfl rfl (by decide) rfl hl.1 rfl (Nat.le_of_ble_eq_true rfl) dL_law_1089 ⟨Nat.le_of_ble_eq_true rfl, Nat.le_of_ble_eq_true rfl⟩ (fun _ => [(h2, .inr (12, [.int 2, .ref h3, .int 0, .int 0, .int 0, .int (-1), .int 0, .int 0, .ref h15, .ref h16, .ref h17, .ref h18, .int 0, .ref h19, .ref h20, .int 0, .ref h21, .ref h22, .ref h23, .ref h24, .ref h25, .int 0, .ref h26, .ref h27, .ref h28, .int 0, .ref h29, .ref h30, .ref h31, .int 0, .int 0, .ref h32, .ref h33, .ref h34, .int 0, .long 0, .long 0, .ref h35, .ref h36, .ref h37, .ref h38, .ref h39, .ref h40, .ref h41, .ref h42, .ref h43, .ref h44, .int 0, .int 0, .ref h45, .ref h46, .ref h47, .ref h48, .ref h49, .ref h50, .ref h51, .ref h52, .ref h53, .int 0, .int 0, .int 0, .int 0, .long 0, .ref h54, .ref h55, .ref h56, .int 0, .int 0, .long 0]))]) (fun _ => rfl) (fun qs3 H locs hT => ?_)
  refine lv_iload (pc := 1092) hx hb dL_law_1092 (lv_at hl 1 rfl) ?_
  refine zb_icmp_eq_t (pc := 1094) (tgt := 1099) hx hb dL_law_1094 (by decide) (by decide) ?_
  refine lv_iload (pc := 1099) hx hb dL_law_1099 (lv_at hl 1 rfl) ?_
  refine zb_if_ne_t (pc := 1101) (tgt := 1116) hx hb dL_law_1101 (by decide) (by decide) ?_
  refine lv_goto (pc := 1116) (tgt := 1719) hx hb dL_law_1116 (by decide) ?_
  exact q_end hx hb hr hlk hX hbl hT (lv_sub hl [2, 6] rfl) (Nat.le_of_ble_eq_true rfl) (Nat.le_of_ble_eq_true rfl)
set_option maxHeartbeats 4000000 in
set_option maxRecDepth 100000 in
theorem q_worst_2_big {p : Program} {l : Launch} {e : Env} {s : State} {m : MethodId} {below : List Frame} {meth : Method} {c : Code} {H : Heap} {locs : List Loc} {ls : Array Slot} {G : va_G} {cy : Nat → ClassId} {b : Nat} {xs : Nat → Int32} (C : zC l G cy p s m meth c b 6 xs) (h0 h1 h2 h3 h4 h5 h6 h7 h8 h9 h10 h11 h12 h13 h14 h15 h16 h17 h18 h19 h20 h21 h22 h23 h24 h25 h26 h27 h28 h29 h30 h31 h32 h33 h34 h35 h36 h37 h38 h39 h40 h41 h42 h43 h44 h45 h46 h47 h48 h49 h50 h51 h52 h53 h54 h55 h56 : Nat) (j : Nat) (w1 : Nat) (hloj : 0 ≤ j) (hhij : j < 6) (hlow1 : 0 ≤ w1) (hhiw1 : w1 < 9) (hs1 : xs 1 = (nI j)) (hs2 : xs 2 = (nI w1)) (hb1 : ¬ ((xs 3) : Int32) < 0) (hb2 : (1 : Int32) < (xs 3)) (hT : zT G (fun q => s.heap.size ≤ q) s.heap H locs [(h0, .inr (11, [.ref h5, .ref h6, .ref h7, .ref h8, .ref h9, .ref h10, .ref h11, .ref h12, .ref h13, .ref h14, .ref h1, .int (-1), .int (-1), .int (-1), .int (-1)])), (h1, .inl (cy 0, 3, .inl (kc 0))), (h2, .inr (12, [.int 0, .ref h3, .int 0, .int 0, .int 0, .int (-1), .int 0, .int 0, .ref h15, .ref h16, .ref h17, .ref h18, .int 0, .ref h19, .ref h20, .int 0, .ref h21, .ref h22, .ref h23, .ref h24, .ref h25, .int 0, .ref h26, .ref h27, .ref h28, .int 0, .ref h29, .ref h30, .ref h31, .int 0, .int 0, .ref h32, .ref h33, .ref h34, .int 0, .long 0, .long 0, .ref h35, .ref h36, .ref h37, .ref h38, .ref h39, .ref h40, .ref h41, .ref h42, .ref h43, .ref h44, .int 0, .int 0, .ref h45, .ref h46, .ref h47, .ref h48, .ref h49, .ref h50, .ref h51, .ref h52, .ref h53, .int 0, .int 0, .int 0, .int 0, .long 0, .ref h54, .ref h55, .ref h56, .int 0, .int 0, .long 0])), (h3, .inl (cy 0, 3, .inl (kc 0)))]) (hl : lv_has ls 8 [(0, .ref b), (1, .ref h0), (2, .ref h2), (3, .ref h4), (4, .int 0)]) : W p l e (zR 1000 600002 7302232) s m #[Value.ref b] below meth c H locs 476 284354 (lw_Z below #[Value.ref b] s) (F0 m 1039 ls []) := by
  obtain ⟨hl0, hx, hb, hr, hml, hown, hts, hX, hbl, hlk, hK, hE, q1, v1, q2, v2, hS⟩ := C
  have hA : ∀ q : Nat, s.heap.size ≤ q → (fun q => s.heap.size ≤ q) q := fun _ h => h
  have hbA : ¬ (fun q => s.heap.size ≤ q) b := Nat.not_le.mpr hbl
  refine lv_aload_n (pc := 1039) hx hb dL_law_1039 rfl (lv_at hl 1 rfl) ?_
  refine lv_aload_n (pc := 1040) hx hb dL_law_1040 rfl (lv_at hl 0 rfl) ?_
  refine lv_iload (pc := 1041) hx hb dL_law_1041 (lv_at hl 4 rfl) ?_
  refine lv_iconst (pc := 1043) (v := 1) hx hb dL_law_1043 (by decide) ?_
  refine z_iadd (pc := 1044) (v := 1) hx hb dL_law_1044 (by decide) ?_
  refine z_sld (pc := 1045) (v := (nI j)) hx hb hX hbl hbA hT 1 rfl (by decide) hs1 dL_law_1045 ?_
  refine lv_aload_n (pc := 1046) hx hb dL_law_1046 rfl (lv_at hl 0 rfl) ?_
  refine lv_iload (pc := 1047) hx hb dL_law_1047 (lv_at hl 4 rfl) ?_
  refine lv_iconst (pc := 1049) (v := 2) hx hb dL_law_1049 (by decide) ?_
  refine z_iadd (pc := 1050) (v := 2) hx hb dL_law_1050 (by decide) ?_
  refine z_sld (pc := 1051) (v := (nI w1)) hx hb hX hbl hbA hT 2 rfl (by decide) hs2 dL_law_1051 ?_
  refine lv_aload_n (pc := 1052) hx hb dL_law_1052 rfl (lv_at hl 0 rfl) ?_
  refine lv_iload (pc := 1053) hx hb dL_law_1053 (lv_at hl 4 rfl) ?_
  refine lv_iconst (pc := 1055) (v := 3) hx hb dL_law_1055 (by decide) ?_
  refine z_iadd (pc := 1056) (v := 3) hx hb dL_law_1056 (by decide) ?_
  refine z_sld (pc := 1057) (v := (xs 3)) hx hb hX hbl hbA hT 3 rfl (by decide) rfl dL_law_1057 ?_
  refine lv_aload_n (pc := 1058) hx hb dL_law_1058 rfl (lv_at hl 3 rfl) ?_
  refine z_eHI (pc := 1059) zE_ok hE hx hb hml hown hts hK hA hT lkH_RL_141 ((k873_L_worst l G cy hl0 h0 h1 h4 h5 h6 h7 h8 h9 h10 h11 h12 h13 h14 (xs 3) j w1 (by omega) (by omega) (by omega) (by omega) hb1 hb2).e) [0, 1] [2, 3] rfl rfl rfl rfl rfl (by decide) rfl hl.1 rfl (Nat.le_of_ble_eq_true rfl) dL_law_1059 ⟨Nat.le_of_ble_eq_true rfl, Nat.le_of_ble_eq_true rfl⟩ (fun _ => [(h2, .inr (12, [.int 0, .ref h3, .int 0, .int 0, .int 0, .int (-1), .int 0, .int 0, .ref h15, .ref h16, .ref h17, .ref h18, .int 0, .ref h19, .ref h20, .int 0, .ref h21, .ref h22, .ref h23, .ref h24, .ref h25, .int 0, .ref h26, .ref h27, .ref h28, .int 0, .ref h29, .ref h30, .ref h31, .int 0, .int 0, .ref h32, .ref h33, .ref h34, .int 0, .long 0, .long 0, .ref h35, .ref h36, .ref h37, .ref h38, .ref h39, .ref h40, .ref h41, .ref h42, .ref h43, .ref h44, .int 0, .int 0, .ref h45, .ref h46, .ref h47, .ref h48, .ref h49, .ref h50, .ref h51, .ref h52, .ref h53, .int 0, .int 0, .int 0, .int 0, .long 0, .ref h54, .ref h55, .ref h56, .int 0, .int 0, .long 0])), (h3, .inl (cy 0, 3, .inl (kc 0)))]) (fun _ => rfl) (fun qs1 H locs hT => ?_)
  refine lv_istore (pc := 1062) (lv' := [(5, .int 2), (0, .ref b), (1, .ref h0), (2, .ref h2), (3, .ref h4), (4, .int 0)]) hx hb dL_law_1062 hl (by decide) rfl (fun ls hl => ?_)
  refine lv_aload_n (pc := 1064) hx hb dL_law_1064 rfl (lv_at hl 3 rfl) ?_
  refine lv_aload_n (pc := 1065) hx hb dL_law_1065 rfl (lv_at hl 1 rfl) ?_
  refine lv_iload (pc := 1066) hx hb dL_law_1066 (lv_at hl 5 rfl) ?_
  refine lv_iconst (pc := 1068) (v := 1) hx hb dL_law_1068 (by decide) ?_
  refine z_iadd (pc := 1069) (v := 1) hx hb dL_law_1069 (by decide) ?_
  refine z_sld (pc := 1070) (v := (nI j)) hx hb hX hbl hbA hT 1 rfl (by decide) hs1 dL_law_1070 ?_
  refine lv_aload_n (pc := 1071) hx hb dL_law_1071 rfl (lv_at hl 1 rfl) ?_
  refine lv_iload (pc := 1072) hx hb dL_law_1072 (lv_at hl 5 rfl) ?_
  refine lv_iconst (pc := 1074) (v := 2) hx hb dL_law_1074 (by decide) ?_
  refine z_iadd (pc := 1075) (v := 2) hx hb dL_law_1075 (by decide) ?_
  refine z_sld (pc := 1076) (v := (nI w1)) hx hb hX hbl hbA hT 2 rfl (by decide) hs2 dL_law_1076 ?_
  refine lv_aload_n (pc := 1077) hx hb dL_law_1077 rfl (lv_at hl 1 rfl) ?_
  refine lv_iload (pc := 1078) hx hb dL_law_1078 (lv_at hl 5 rfl) ?_
  refine lv_iconst (pc := 1080) (v := 3) hx hb dL_law_1080 (by decide) ?_
  refine z_iadd (pc := 1081) (v := 3) hx hb dL_law_1081 (by decide) ?_
  refine z_sld (pc := 1082) (v := (xs 3)) hx hb hX hbl hbA hT 3 rfl (by decide) rfl dL_law_1082 ?_
  refine z_cVI (pc := 1083) hx hb hml hown hts hK hA hT lkV_RL_143 (k725_X12_worst l G cy h2 h3 h15 h16 h17 h18 h19 h20 h21 h22 h23 h24 h25 h26 h27 h28 h29 h30 h31 h32 h33 h34 h35 h36 h37 h38 h39 h40 h41 h42 h43 h44 h45 h46 h47 h48 h49 h50 h51 h52 h53 h54 h55 h56 (xs 3) j w1 (by omega) (by omega) (by omega) (by omega) hb1 hb2) [0, 1] [] rfl rfl rfl rfl rfl 0 rfl rfl (by decide) rfl hl.1 rfl (Nat.le_of_ble_eq_true rfl) dL_law_1083 ⟨Nat.le_of_ble_eq_true rfl, Nat.le_of_ble_eq_true rfl⟩ (fun _ => [(h2, .inr (12, [.int 2, .ref h3, .int 0, .int 0, .int 0, .int (-1), .int 0, .int 0, .ref h15, .ref h16, .ref h17, .ref h18, .int 0, .ref h19, .ref h20, .int 0, .ref h21, .ref h22, .ref h23, .ref h24, .ref h25, .int 0, .ref h26, .ref h27, .ref h28, .int 0, .ref h29, .ref h30, .ref h31, .int 0, .int 0, .ref h32, .ref h33, .ref h34, .int 0, .long 0, .long 0, .ref h35, .ref h36, .ref h37, .ref h38, .ref h39, .ref h40, .ref h41, .ref h42, .ref h43, .ref h44, .int 0, .int 0, .ref h45, .ref h46, .ref h47, .ref h48, .ref h49, .ref h50, .ref h51, .ref h52, .ref h53, .int 0, .int 0, .int 0, .int 0, .long 0, .ref h54, .ref h55, .ref h56, .int 0, .int 0, .long 0]))]) (fun _ => rfl) (fun qs2 H locs hT => ?_)
  refine lv_istore (pc := 1086) (lv' := [(6, .int 0), (5, .int 2), (0, .ref b), (1, .ref h0), (2, .ref h2), (3, .ref h4), (4, .int 0)]) hx hb dL_law_1086 hl (by decide) rfl (fun ls hl => ?_)
  refine lv_aload_n (pc := 1088) hx hb dL_law_1088 rfl (lv_at hl 4 rfl) ?_
  refine z_cVI (pc := 1089) hx hb hml hown hts hK hA hT lkV_RL_96 (k1052_X12_thrown l G cy h2 h3 h15 h16 h17 h18 h19 h20 h21 h22 h23 h24 h25 h26 h27 h28 h29 h30 h31 h32 h33 h34 h35 h36 h37 h38 h39 h40 h41 h42 h43 h44 h45 h46 h47 h48 h49 h50 h51 h52 h53 h54 h55 h56) [0] [] rfl rfl rfl rfl rfl 0 rfl rfl (by decide) rfl hl.1 rfl (Nat.le_of_ble_eq_true rfl) dL_law_1089 ⟨Nat.le_of_ble_eq_true rfl, Nat.le_of_ble_eq_true rfl⟩ (fun _ => [(h2, .inr (12, [.int 2, .ref h3, .int 0, .int 0, .int 0, .int (-1), .int 0, .int 0, .ref h15, .ref h16, .ref h17, .ref h18, .int 0, .ref h19, .ref h20, .int 0, .ref h21, .ref h22, .ref h23, .ref h24, .ref h25, .int 0, .ref h26, .ref h27, .ref h28, .int 0, .ref h29, .ref h30, .ref h31, .int 0, .int 0, .ref h32, .ref h33, .ref h34, .int 0, .long 0, .long 0, .ref h35, .ref h36, .ref h37, .ref h38, .ref h39, .ref h40, .ref h41, .ref h42, .ref h43, .ref h44, .int 0, .int 0, .ref h45, .ref h46, .ref h47, .ref h48, .ref h49, .ref h50, .ref h51, .ref h52, .ref h53, .int 0, .int 0, .int 0, .int 0, .long 0, .ref h54, .ref h55, .ref h56, .int 0, .int 0, .long 0]))]) (fun _ => rfl) (fun qs3 H locs hT => ?_)
  refine lv_iload (pc := 1092) hx hb dL_law_1092 (lv_at hl 1 rfl) ?_
  refine zb_icmp_eq_t (pc := 1094) (tgt := 1099) hx hb dL_law_1094 (by decide) (by decide) ?_
  refine lv_iload (pc := 1099) hx hb dL_law_1099 (lv_at hl 1 rfl) ?_
  refine zb_if_ne_t (pc := 1101) (tgt := 1116) hx hb dL_law_1101 (by decide) (by decide) ?_
  refine lv_goto (pc := 1116) (tgt := 1719) hx hb dL_law_1116 (by decide) ?_
  exact q_end hx hb hr hlk hX hbl hT (lv_sub hl [2, 6] rfl) (Nat.le_of_ble_eq_true rfl) (Nat.le_of_ble_eq_true rfl)
set_option maxHeartbeats 4000000 in
set_option maxRecDepth 100000 in
theorem q_paths_0_neg {p : Program} {l : Launch} {e : Env} {s : State} {m : MethodId} {below : List Frame} {meth : Method} {c : Code} {H : Heap} {locs : List Loc} {ls : Array Slot} {G : va_G} {cy : Nat → ClassId} {b : Nat} {xs : Nat → Int32} (C : zC l G cy p s m meth c b 6 xs) (h0 h1 h2 h3 h4 h5 h6 h7 h8 h9 h10 h11 h12 h13 h14 h15 h16 h17 h18 h19 h20 h21 h22 h23 h24 h25 h26 h27 h28 h29 h30 h31 h32 h33 h34 h35 h36 h37 h38 h39 h40 h41 h42 h43 h44 h45 h46 h47 h48 h49 h50 h51 h52 h53 h54 h55 h56 : Nat) (hneg : ((xs 1) : Int32) < 0) (hT : zT G (fun q => s.heap.size ≤ q) s.heap H locs [(h0, .inr (11, [.ref h5, .ref h6, .ref h7, .ref h8, .ref h9, .ref h10, .ref h11, .ref h12, .ref h13, .ref h14, .ref h1, .int (-1), .int (-1), .int (-1), .int (-1)])), (h1, .inl (cy 0, 3, .inl (kc 0))), (h2, .inr (12, [.int 0, .ref h3, .int 0, .int 0, .int 0, .int (-1), .int 0, .int 0, .ref h15, .ref h16, .ref h17, .ref h18, .int 0, .ref h19, .ref h20, .int 0, .ref h21, .ref h22, .ref h23, .ref h24, .ref h25, .int 0, .ref h26, .ref h27, .ref h28, .int 0, .ref h29, .ref h30, .ref h31, .int 0, .int 0, .ref h32, .ref h33, .ref h34, .int 0, .long 0, .long 0, .ref h35, .ref h36, .ref h37, .ref h38, .ref h39, .ref h40, .ref h41, .ref h42, .ref h43, .ref h44, .int 0, .int 0, .ref h45, .ref h46, .ref h47, .ref h48, .ref h49, .ref h50, .ref h51, .ref h52, .ref h53, .int 0, .int 0, .int 0, .int 0, .long 0, .ref h54, .ref h55, .ref h56, .int 0, .int 0, .long 0])), (h3, .inl (cy 0, 3, .inl (kc 0)))]) (hl : lv_has ls 8 [(0, .ref b), (1, .ref h0), (2, .ref h2), (3, .ref h4), (4, .int 0)]) : W p l e (zR 1000 600002 7302232) s m #[Value.ref b] below meth c H locs 476 284354 (lw_Z below #[Value.ref b] s) (F0 m 1119 ls []) := by
  obtain ⟨hl0, hx, hb, hr, hml, hown, hts, hX, hbl, hlk, hK, hE, q1, v1, q2, v2, hS⟩ := C
  have hA : ∀ q : Nat, s.heap.size ≤ q → (fun q => s.heap.size ≤ q) q := fun _ h => h
  have hbA : ¬ (fun q => s.heap.size ≤ q) b := Nat.not_le.mpr hbl
  refine lv_aload_n (pc := 1119) hx hb dL_law_1119 rfl (lv_at hl 1 rfl) ?_
  refine lv_aload_n (pc := 1120) hx hb dL_law_1120 rfl (lv_at hl 0 rfl) ?_
  refine lv_iload (pc := 1121) hx hb dL_law_1121 (lv_at hl 4 rfl) ?_
  refine lv_iconst (pc := 1123) (v := 1) hx hb dL_law_1123 (by decide) ?_
  refine z_iadd (pc := 1124) (v := 1) hx hb dL_law_1124 (by decide) ?_
  refine z_sld (pc := 1125) (v := (xs 1)) hx hb hX hbl hbA hT 1 rfl (by decide) rfl dL_law_1125 ?_
  refine lv_aload_n (pc := 1126) hx hb dL_law_1126 rfl (lv_at hl 0 rfl) ?_
  refine lv_iload (pc := 1127) hx hb dL_law_1127 (lv_at hl 4 rfl) ?_
  refine lv_iconst (pc := 1129) (v := 2) hx hb dL_law_1129 (by decide) ?_
  refine z_iadd (pc := 1130) (v := 2) hx hb dL_law_1130 (by decide) ?_
  refine z_sld (pc := 1131) (v := (xs 2)) hx hb hX hbl hbA hT 2 rfl (by decide) rfl dL_law_1131 ?_
  refine lv_aload_n (pc := 1132) hx hb dL_law_1132 rfl (lv_at hl 3 rfl) ?_
  refine z_eHI (pc := 1133) zE_ok hE hx hb hml hown hts hK hA hT lkH_RL_144 ((k874_L_paths l G cy hl0 h0 h1 h4 h5 h6 h7 h8 h9 h10 h11 h12 h13 h14 (xs 1) (xs 2) hneg).e) [0, 1] [2, 3] rfl rfl rfl rfl rfl (by decide) rfl hl.1 rfl (Nat.le_of_ble_eq_true rfl) dL_law_1133 ⟨Nat.le_of_ble_eq_true rfl, Nat.le_of_ble_eq_true rfl⟩ (fun _ => [(h2, .inr (12, [.int 0, .ref h3, .int 0, .int 0, .int 0, .int (-1), .int 0, .int 0, .ref h15, .ref h16, .ref h17, .ref h18, .int 0, .ref h19, .ref h20, .int 0, .ref h21, .ref h22, .ref h23, .ref h24, .ref h25, .int 0, .ref h26, .ref h27, .ref h28, .int 0, .ref h29, .ref h30, .ref h31, .int 0, .int 0, .ref h32, .ref h33, .ref h34, .int 0, .long 0, .long 0, .ref h35, .ref h36, .ref h37, .ref h38, .ref h39, .ref h40, .ref h41, .ref h42, .ref h43, .ref h44, .int 0, .int 0, .ref h45, .ref h46, .ref h47, .ref h48, .ref h49, .ref h50, .ref h51, .ref h52, .ref h53, .int 0, .int 0, .int 0, .int 0, .long 0, .ref h54, .ref h55, .ref h56, .int 0, .int 0, .long 0])), (h3, .inl (cy 0, 3, .inl (kc 0)))]) (fun _ => rfl) (fun qs1 H locs hT => ?_)
  refine lv_istore (pc := 1136) (lv' := [(5, .int 1), (0, .ref b), (1, .ref h0), (2, .ref h2), (3, .ref h4), (4, .int 0)]) hx hb dL_law_1136 hl (by decide) rfl (fun ls hl => ?_)
  refine lv_aload_n (pc := 1138) hx hb dL_law_1138 rfl (lv_at hl 3 rfl) ?_
  refine lv_aload_n (pc := 1139) hx hb dL_law_1139 rfl (lv_at hl 1 rfl) ?_
  refine lv_iload (pc := 1140) hx hb dL_law_1140 (lv_at hl 5 rfl) ?_
  refine lv_iconst (pc := 1142) (v := 1) hx hb dL_law_1142 (by decide) ?_
  refine z_iadd (pc := 1143) (v := 1) hx hb dL_law_1143 (by decide) ?_
  refine z_sld (pc := 1144) (v := (xs 1)) hx hb hX hbl hbA hT 1 rfl (by decide) rfl dL_law_1144 ?_
  refine lv_aload_n (pc := 1145) hx hb dL_law_1145 rfl (lv_at hl 1 rfl) ?_
  refine lv_iload (pc := 1146) hx hb dL_law_1146 (lv_at hl 5 rfl) ?_
  refine lv_iconst (pc := 1148) (v := 2) hx hb dL_law_1148 (by decide) ?_
  refine z_iadd (pc := 1149) (v := 2) hx hb dL_law_1149 (by decide) ?_
  refine z_sld (pc := 1150) (v := (xs 2)) hx hb hX hbl hbA hT 2 rfl (by decide) rfl dL_law_1150 ?_
  refine z_cVJ (pc := 1151) hx hb hml hown hts hK hA hT lkV_RL_146 (k726_X12_paths l G cy h2 h3 h15 h16 h17 h18 h19 h20 h21 h22 h23 h24 h25 h26 h27 h28 h29 h30 h31 h32 h33 h34 h35 h36 h37 h38 h39 h40 h41 h42 h43 h44 h45 h46 h47 h48 h49 h50 h51 h52 h53 h54 h55 h56 (xs 1) (xs 2) hneg) [0, 1] [] rfl rfl rfl rfl rfl 0 rfl rfl (by decide) rfl hl.1 rfl (Nat.le_of_ble_eq_true rfl) dL_law_1151 ⟨Nat.le_of_ble_eq_true rfl, Nat.le_of_ble_eq_true rfl⟩ (fun _ => [(h2, .inr (12, [.int 1, .ref h3, .int 0, .int 0, .int 0, .int (-1), .int 0, .int 0, .ref h15, .ref h16, .ref h17, .ref h18, .int 0, .ref h19, .ref h20, .int 0, .ref h21, .ref h22, .ref h23, .ref h24, .ref h25, .int 0, .ref h26, .ref h27, .ref h28, .int 0, .ref h29, .ref h30, .ref h31, .int 0, .int 0, .ref h32, .ref h33, .ref h34, .int 0, .long 0, .long 0, .ref h35, .ref h36, .ref h37, .ref h38, .ref h39, .ref h40, .ref h41, .ref h42, .ref h43, .ref h44, .int 0, .int 0, .ref h45, .ref h46, .ref h47, .ref h48, .ref h49, .ref h50, .ref h51, .ref h52, .ref h53, .int 0, .int 0, .int 0, .int 0, .long 0, .ref h54, .ref h55, .ref h56, .int 0, .int 0, .long 0]))]) (fun _ => rfl) (fun qs2 H locs hT => ?_)
  refine lv_lstore (pc := 1154) (lv' := [(6, .long 0), (5, .int 1), (0, .ref b), (1, .ref h0), (2, .ref h2), (3, .ref h4), (4, .int 0)]) hx hb dL_law_1154 hl (by decide) rfl (fun ls hl => ?_)
  refine lv_aload_n (pc := 1156) hx hb dL_law_1156 rfl (lv_at hl 4 rfl) ?_
  refine z_cVI (pc := 1157) hx hb hml hown hts hK hA hT lkV_RL_96 (k1051_X12_thrown l G cy h2 h3 h15 h16 h17 h18 h19 h20 h21 h22 h23 h24 h25 h26 h27 h28 h29 h30 h31 h32 h33 h34 h35 h36 h37 h38 h39 h40 h41 h42 h43 h44 h45 h46 h47 h48 h49 h50 h51 h52 h53 h54 h55 h56) [0] [] rfl rfl rfl rfl rfl 0 rfl rfl (by decide) rfl hl.1 rfl (Nat.le_of_ble_eq_true rfl) dL_law_1157 ⟨Nat.le_of_ble_eq_true rfl, Nat.le_of_ble_eq_true rfl⟩ (fun _ => [(h2, .inr (12, [.int 1, .ref h3, .int 0, .int 0, .int 0, .int (-1), .int 0, .int 0, .ref h15, .ref h16, .ref h17, .ref h18, .int 0, .ref h19, .ref h20, .int 0, .ref h21, .ref h22, .ref h23, .ref h24, .ref h25, .int 0, .ref h26, .ref h27, .ref h28, .int 0, .ref h29, .ref h30, .ref h31, .int 0, .int 0, .ref h32, .ref h33, .ref h34, .int 0, .long 0, .long 0, .ref h35, .ref h36, .ref h37, .ref h38, .ref h39, .ref h40, .ref h41, .ref h42, .ref h43, .ref h44, .int 0, .int 0, .ref h45, .ref h46, .ref h47, .ref h48, .ref h49, .ref h50, .ref h51, .ref h52, .ref h53, .int 0, .int 0, .int 0, .int 0, .long 0, .ref h54, .ref h55, .ref h56, .int 0, .int 0, .long 0]))]) (fun _ => rfl) (fun qs3 H locs hT => ?_)
  refine lv_iload (pc := 1160) hx hb dL_law_1160 (lv_at hl 1 rfl) ?_
  refine zb_icmp_eq_t (pc := 1162) (tgt := 1167) hx hb dL_law_1162 (by decide) (by decide) ?_
  refine lv_iload (pc := 1167) hx hb dL_law_1167 (lv_at hl 1 rfl) ?_
  refine zb_if_ne_t (pc := 1169) (tgt := 1183) hx hb dL_law_1169 (by decide) (by decide) ?_
  refine lv_goto (pc := 1183) (tgt := 1719) hx hb dL_law_1183 (by decide) ?_
  exact q_end hx hb hr hlk hX hbl hT (lv_sub hl [2, 6] rfl) (Nat.le_of_ble_eq_true rfl) (Nat.le_of_ble_eq_true rfl)
set_option maxHeartbeats 4000000 in
set_option maxRecDepth 100000 in
theorem q_paths_0_big {p : Program} {l : Launch} {e : Env} {s : State} {m : MethodId} {below : List Frame} {meth : Method} {c : Code} {H : Heap} {locs : List Loc} {ls : Array Slot} {G : va_G} {cy : Nat → ClassId} {b : Nat} {xs : Nat → Int32} (C : zC l G cy p s m meth c b 6 xs) (h0 h1 h2 h3 h4 h5 h6 h7 h8 h9 h10 h11 h12 h13 h14 h15 h16 h17 h18 h19 h20 h21 h22 h23 h24 h25 h26 h27 h28 h29 h30 h31 h32 h33 h34 h35 h36 h37 h38 h39 h40 h41 h42 h43 h44 h45 h46 h47 h48 h49 h50 h51 h52 h53 h54 h55 h56 : Nat) (hb1 : ¬ ((xs 1) : Int32) < 0) (hb2 : ¬ ((xs 1) : Int32) < 6) (hb3 : (5 : Int32) < (xs 1)) (hT : zT G (fun q => s.heap.size ≤ q) s.heap H locs [(h0, .inr (11, [.ref h5, .ref h6, .ref h7, .ref h8, .ref h9, .ref h10, .ref h11, .ref h12, .ref h13, .ref h14, .ref h1, .int (-1), .int (-1), .int (-1), .int (-1)])), (h1, .inl (cy 0, 3, .inl (kc 0))), (h2, .inr (12, [.int 0, .ref h3, .int 0, .int 0, .int 0, .int (-1), .int 0, .int 0, .ref h15, .ref h16, .ref h17, .ref h18, .int 0, .ref h19, .ref h20, .int 0, .ref h21, .ref h22, .ref h23, .ref h24, .ref h25, .int 0, .ref h26, .ref h27, .ref h28, .int 0, .ref h29, .ref h30, .ref h31, .int 0, .int 0, .ref h32, .ref h33, .ref h34, .int 0, .long 0, .long 0, .ref h35, .ref h36, .ref h37, .ref h38, .ref h39, .ref h40, .ref h41, .ref h42, .ref h43, .ref h44, .int 0, .int 0, .ref h45, .ref h46, .ref h47, .ref h48, .ref h49, .ref h50, .ref h51, .ref h52, .ref h53, .int 0, .int 0, .int 0, .int 0, .long 0, .ref h54, .ref h55, .ref h56, .int 0, .int 0, .long 0])), (h3, .inl (cy 0, 3, .inl (kc 0)))]) (hl : lv_has ls 8 [(0, .ref b), (1, .ref h0), (2, .ref h2), (3, .ref h4), (4, .int 0)]) : W p l e (zR 1000 600002 7302232) s m #[Value.ref b] below meth c H locs 476 284354 (lw_Z below #[Value.ref b] s) (F0 m 1119 ls []) := by
  obtain ⟨hl0, hx, hb, hr, hml, hown, hts, hX, hbl, hlk, hK, hE, q1, v1, q2, v2, hS⟩ := C
  have hA : ∀ q : Nat, s.heap.size ≤ q → (fun q => s.heap.size ≤ q) q := fun _ h => h
  have hbA : ¬ (fun q => s.heap.size ≤ q) b := Nat.not_le.mpr hbl
  refine lv_aload_n (pc := 1119) hx hb dL_law_1119 rfl (lv_at hl 1 rfl) ?_
  refine lv_aload_n (pc := 1120) hx hb dL_law_1120 rfl (lv_at hl 0 rfl) ?_
  refine lv_iload (pc := 1121) hx hb dL_law_1121 (lv_at hl 4 rfl) ?_
  refine lv_iconst (pc := 1123) (v := 1) hx hb dL_law_1123 (by decide) ?_
  refine z_iadd (pc := 1124) (v := 1) hx hb dL_law_1124 (by decide) ?_
  refine z_sld (pc := 1125) (v := (xs 1)) hx hb hX hbl hbA hT 1 rfl (by decide) rfl dL_law_1125 ?_
  refine lv_aload_n (pc := 1126) hx hb dL_law_1126 rfl (lv_at hl 0 rfl) ?_
  refine lv_iload (pc := 1127) hx hb dL_law_1127 (lv_at hl 4 rfl) ?_
  refine lv_iconst (pc := 1129) (v := 2) hx hb dL_law_1129 (by decide) ?_
  refine z_iadd (pc := 1130) (v := 2) hx hb dL_law_1130 (by decide) ?_
  refine z_sld (pc := 1131) (v := (xs 2)) hx hb hX hbl hbA hT 2 rfl (by decide) rfl dL_law_1131 ?_
  refine lv_aload_n (pc := 1132) hx hb dL_law_1132 rfl (lv_at hl 3 rfl) ?_
  refine z_eHI (pc := 1133) zE_ok hE hx hb hml hown hts hK hA hT lkH_RL_144 ((k875_L_paths l G cy hl0 h0 h1 h4 h5 h6 h7 h8 h9 h10 h11 h12 h13 h14 (xs 1) (xs 2) hb1 hb2).e) [0, 1] [2, 3] rfl rfl rfl rfl rfl (by decide) rfl hl.1 rfl (Nat.le_of_ble_eq_true rfl) dL_law_1133 ⟨Nat.le_of_ble_eq_true rfl, Nat.le_of_ble_eq_true rfl⟩ (fun _ => [(h2, .inr (12, [.int 0, .ref h3, .int 0, .int 0, .int 0, .int (-1), .int 0, .int 0, .ref h15, .ref h16, .ref h17, .ref h18, .int 0, .ref h19, .ref h20, .int 0, .ref h21, .ref h22, .ref h23, .ref h24, .ref h25, .int 0, .ref h26, .ref h27, .ref h28, .int 0, .ref h29, .ref h30, .ref h31, .int 0, .int 0, .ref h32, .ref h33, .ref h34, .int 0, .long 0, .long 0, .ref h35, .ref h36, .ref h37, .ref h38, .ref h39, .ref h40, .ref h41, .ref h42, .ref h43, .ref h44, .int 0, .int 0, .ref h45, .ref h46, .ref h47, .ref h48, .ref h49, .ref h50, .ref h51, .ref h52, .ref h53, .int 0, .int 0, .int 0, .int 0, .long 0, .ref h54, .ref h55, .ref h56, .int 0, .int 0, .long 0])), (h3, .inl (cy 0, 3, .inl (kc 0)))]) (fun _ => rfl) (fun qs1 H locs hT => ?_)
  refine lv_istore (pc := 1136) (lv' := [(5, .int 1), (0, .ref b), (1, .ref h0), (2, .ref h2), (3, .ref h4), (4, .int 0)]) hx hb dL_law_1136 hl (by decide) rfl (fun ls hl => ?_)
  refine lv_aload_n (pc := 1138) hx hb dL_law_1138 rfl (lv_at hl 3 rfl) ?_
  refine lv_aload_n (pc := 1139) hx hb dL_law_1139 rfl (lv_at hl 1 rfl) ?_
  refine lv_iload (pc := 1140) hx hb dL_law_1140 (lv_at hl 5 rfl) ?_
  refine lv_iconst (pc := 1142) (v := 1) hx hb dL_law_1142 (by decide) ?_
  refine z_iadd (pc := 1143) (v := 1) hx hb dL_law_1143 (by decide) ?_
  refine z_sld (pc := 1144) (v := (xs 1)) hx hb hX hbl hbA hT 1 rfl (by decide) rfl dL_law_1144 ?_
  refine lv_aload_n (pc := 1145) hx hb dL_law_1145 rfl (lv_at hl 1 rfl) ?_
  refine lv_iload (pc := 1146) hx hb dL_law_1146 (lv_at hl 5 rfl) ?_
  refine lv_iconst (pc := 1148) (v := 2) hx hb dL_law_1148 (by decide) ?_
  refine z_iadd (pc := 1149) (v := 2) hx hb dL_law_1149 (by decide) ?_
  refine z_sld (pc := 1150) (v := (xs 2)) hx hb hX hbl hbA hT 2 rfl (by decide) rfl dL_law_1150 ?_
  refine z_cVJ (pc := 1151) hx hb hml hown hts hK hA hT lkV_RL_146 (k727_X12_paths l G cy h2 h3 h15 h16 h17 h18 h19 h20 h21 h22 h23 h24 h25 h26 h27 h28 h29 h30 h31 h32 h33 h34 h35 h36 h37 h38 h39 h40 h41 h42 h43 h44 h45 h46 h47 h48 h49 h50 h51 h52 h53 h54 h55 h56 (xs 1) (xs 2) hb1 hb3) [0, 1] [] rfl rfl rfl rfl rfl 0 rfl rfl (by decide) rfl hl.1 rfl (Nat.le_of_ble_eq_true rfl) dL_law_1151 ⟨Nat.le_of_ble_eq_true rfl, Nat.le_of_ble_eq_true rfl⟩ (fun _ => [(h2, .inr (12, [.int 1, .ref h3, .int 0, .int 0, .int 0, .int (-1), .int 0, .int 0, .ref h15, .ref h16, .ref h17, .ref h18, .int 0, .ref h19, .ref h20, .int 0, .ref h21, .ref h22, .ref h23, .ref h24, .ref h25, .int 0, .ref h26, .ref h27, .ref h28, .int 0, .ref h29, .ref h30, .ref h31, .int 0, .int 0, .ref h32, .ref h33, .ref h34, .int 0, .long 0, .long 0, .ref h35, .ref h36, .ref h37, .ref h38, .ref h39, .ref h40, .ref h41, .ref h42, .ref h43, .ref h44, .int 0, .int 0, .ref h45, .ref h46, .ref h47, .ref h48, .ref h49, .ref h50, .ref h51, .ref h52, .ref h53, .int 0, .int 0, .int 0, .int 0, .long 0, .ref h54, .ref h55, .ref h56, .int 0, .int 0, .long 0]))]) (fun _ => rfl) (fun qs2 H locs hT => ?_)
  refine lv_lstore (pc := 1154) (lv' := [(6, .long 0), (5, .int 1), (0, .ref b), (1, .ref h0), (2, .ref h2), (3, .ref h4), (4, .int 0)]) hx hb dL_law_1154 hl (by decide) rfl (fun ls hl => ?_)
  refine lv_aload_n (pc := 1156) hx hb dL_law_1156 rfl (lv_at hl 4 rfl) ?_
  refine z_cVI (pc := 1157) hx hb hml hown hts hK hA hT lkV_RL_96 (k1051_X12_thrown l G cy h2 h3 h15 h16 h17 h18 h19 h20 h21 h22 h23 h24 h25 h26 h27 h28 h29 h30 h31 h32 h33 h34 h35 h36 h37 h38 h39 h40 h41 h42 h43 h44 h45 h46 h47 h48 h49 h50 h51 h52 h53 h54 h55 h56) [0] [] rfl rfl rfl rfl rfl 0 rfl rfl (by decide) rfl hl.1 rfl (Nat.le_of_ble_eq_true rfl) dL_law_1157 ⟨Nat.le_of_ble_eq_true rfl, Nat.le_of_ble_eq_true rfl⟩ (fun _ => [(h2, .inr (12, [.int 1, .ref h3, .int 0, .int 0, .int 0, .int (-1), .int 0, .int 0, .ref h15, .ref h16, .ref h17, .ref h18, .int 0, .ref h19, .ref h20, .int 0, .ref h21, .ref h22, .ref h23, .ref h24, .ref h25, .int 0, .ref h26, .ref h27, .ref h28, .int 0, .ref h29, .ref h30, .ref h31, .int 0, .int 0, .ref h32, .ref h33, .ref h34, .int 0, .long 0, .long 0, .ref h35, .ref h36, .ref h37, .ref h38, .ref h39, .ref h40, .ref h41, .ref h42, .ref h43, .ref h44, .int 0, .int 0, .ref h45, .ref h46, .ref h47, .ref h48, .ref h49, .ref h50, .ref h51, .ref h52, .ref h53, .int 0, .int 0, .int 0, .int 0, .long 0, .ref h54, .ref h55, .ref h56, .int 0, .int 0, .long 0]))]) (fun _ => rfl) (fun qs3 H locs hT => ?_)
  refine lv_iload (pc := 1160) hx hb dL_law_1160 (lv_at hl 1 rfl) ?_
  refine zb_icmp_eq_t (pc := 1162) (tgt := 1167) hx hb dL_law_1162 (by decide) (by decide) ?_
  refine lv_iload (pc := 1167) hx hb dL_law_1167 (lv_at hl 1 rfl) ?_
  refine zb_if_ne_t (pc := 1169) (tgt := 1183) hx hb dL_law_1169 (by decide) (by decide) ?_
  refine lv_goto (pc := 1183) (tgt := 1719) hx hb dL_law_1183 (by decide) ?_
  exact q_end hx hb hr hlk hX hbl hT (lv_sub hl [2, 6] rfl) (Nat.le_of_ble_eq_true rfl) (Nat.le_of_ble_eq_true rfl)
set_option maxHeartbeats 4000000 in
set_option maxRecDepth 100000 in
theorem q_paths_1_neg {p : Program} {l : Launch} {e : Env} {s : State} {m : MethodId} {below : List Frame} {meth : Method} {c : Code} {H : Heap} {locs : List Loc} {ls : Array Slot} {G : va_G} {cy : Nat → ClassId} {b : Nat} {xs : Nat → Int32} (C : zC l G cy p s m meth c b 6 xs) (h0 h1 h2 h3 h4 h5 h6 h7 h8 h9 h10 h11 h12 h13 h14 h15 h16 h17 h18 h19 h20 h21 h22 h23 h24 h25 h26 h27 h28 h29 h30 h31 h32 h33 h34 h35 h36 h37 h38 h39 h40 h41 h42 h43 h44 h45 h46 h47 h48 h49 h50 h51 h52 h53 h54 h55 h56 : Nat) (j : Nat) (hloj : 0 ≤ j) (hhij : j < 6) (hs1 : xs 1 = (nI j)) (hneg : ((xs 2) : Int32) < 0) (hT : zT G (fun q => s.heap.size ≤ q) s.heap H locs [(h0, .inr (11, [.ref h5, .ref h6, .ref h7, .ref h8, .ref h9, .ref h10, .ref h11, .ref h12, .ref h13, .ref h14, .ref h1, .int (-1), .int (-1), .int (-1), .int (-1)])), (h1, .inl (cy 0, 3, .inl (kc 0))), (h2, .inr (12, [.int 0, .ref h3, .int 0, .int 0, .int 0, .int (-1), .int 0, .int 0, .ref h15, .ref h16, .ref h17, .ref h18, .int 0, .ref h19, .ref h20, .int 0, .ref h21, .ref h22, .ref h23, .ref h24, .ref h25, .int 0, .ref h26, .ref h27, .ref h28, .int 0, .ref h29, .ref h30, .ref h31, .int 0, .int 0, .ref h32, .ref h33, .ref h34, .int 0, .long 0, .long 0, .ref h35, .ref h36, .ref h37, .ref h38, .ref h39, .ref h40, .ref h41, .ref h42, .ref h43, .ref h44, .int 0, .int 0, .ref h45, .ref h46, .ref h47, .ref h48, .ref h49, .ref h50, .ref h51, .ref h52, .ref h53, .int 0, .int 0, .int 0, .int 0, .long 0, .ref h54, .ref h55, .ref h56, .int 0, .int 0, .long 0])), (h3, .inl (cy 0, 3, .inl (kc 0)))]) (hl : lv_has ls 8 [(0, .ref b), (1, .ref h0), (2, .ref h2), (3, .ref h4), (4, .int 0)]) : W p l e (zR 1000 600002 7302232) s m #[Value.ref b] below meth c H locs 476 284354 (lw_Z below #[Value.ref b] s) (F0 m 1119 ls []) := by
  obtain ⟨hl0, hx, hb, hr, hml, hown, hts, hX, hbl, hlk, hK, hE, q1, v1, q2, v2, hS⟩ := C
  have hA : ∀ q : Nat, s.heap.size ≤ q → (fun q => s.heap.size ≤ q) q := fun _ h => h
  have hbA : ¬ (fun q => s.heap.size ≤ q) b := Nat.not_le.mpr hbl
  refine lv_aload_n (pc := 1119) hx hb dL_law_1119 rfl (lv_at hl 1 rfl) ?_
  refine lv_aload_n (pc := 1120) hx hb dL_law_1120 rfl (lv_at hl 0 rfl) ?_
  refine lv_iload (pc := 1121) hx hb dL_law_1121 (lv_at hl 4 rfl) ?_
  refine lv_iconst (pc := 1123) (v := 1) hx hb dL_law_1123 (by decide) ?_
  refine z_iadd (pc := 1124) (v := 1) hx hb dL_law_1124 (by decide) ?_
  refine z_sld (pc := 1125) (v := (nI j)) hx hb hX hbl hbA hT 1 rfl (by decide) hs1 dL_law_1125 ?_
  refine lv_aload_n (pc := 1126) hx hb dL_law_1126 rfl (lv_at hl 0 rfl) ?_
  refine lv_iload (pc := 1127) hx hb dL_law_1127 (lv_at hl 4 rfl) ?_
  refine lv_iconst (pc := 1129) (v := 2) hx hb dL_law_1129 (by decide) ?_
  refine z_iadd (pc := 1130) (v := 2) hx hb dL_law_1130 (by decide) ?_
  refine z_sld (pc := 1131) (v := (xs 2)) hx hb hX hbl hbA hT 2 rfl (by decide) rfl dL_law_1131 ?_
  refine lv_aload_n (pc := 1132) hx hb dL_law_1132 rfl (lv_at hl 3 rfl) ?_
  refine z_eHI (pc := 1133) zE_ok hE hx hb hml hown hts hK hA hT lkH_RL_144 ((k876_L_paths l G cy hl0 h0 h1 h4 h5 h6 h7 h8 h9 h10 h11 h12 h13 h14 (xs 2) j (by omega) (by omega) hneg).e) [0, 1] [2, 3] rfl rfl rfl rfl rfl (by decide) rfl hl.1 rfl (Nat.le_of_ble_eq_true rfl) dL_law_1133 ⟨Nat.le_of_ble_eq_true rfl, Nat.le_of_ble_eq_true rfl⟩ (fun _ => [(h2, .inr (12, [.int 0, .ref h3, .int 0, .int 0, .int 0, .int (-1), .int 0, .int 0, .ref h15, .ref h16, .ref h17, .ref h18, .int 0, .ref h19, .ref h20, .int 0, .ref h21, .ref h22, .ref h23, .ref h24, .ref h25, .int 0, .ref h26, .ref h27, .ref h28, .int 0, .ref h29, .ref h30, .ref h31, .int 0, .int 0, .ref h32, .ref h33, .ref h34, .int 0, .long 0, .long 0, .ref h35, .ref h36, .ref h37, .ref h38, .ref h39, .ref h40, .ref h41, .ref h42, .ref h43, .ref h44, .int 0, .int 0, .ref h45, .ref h46, .ref h47, .ref h48, .ref h49, .ref h50, .ref h51, .ref h52, .ref h53, .int 0, .int 0, .int 0, .int 0, .long 0, .ref h54, .ref h55, .ref h56, .int 0, .int 0, .long 0])), (h3, .inl (cy 0, 3, .inl (kc 0)))]) (fun _ => rfl) (fun qs1 H locs hT => ?_)
  refine lv_istore (pc := 1136) (lv' := [(5, .int 2), (0, .ref b), (1, .ref h0), (2, .ref h2), (3, .ref h4), (4, .int 0)]) hx hb dL_law_1136 hl (by decide) rfl (fun ls hl => ?_)
  refine lv_aload_n (pc := 1138) hx hb dL_law_1138 rfl (lv_at hl 3 rfl) ?_
  refine lv_aload_n (pc := 1139) hx hb dL_law_1139 rfl (lv_at hl 1 rfl) ?_
  refine lv_iload (pc := 1140) hx hb dL_law_1140 (lv_at hl 5 rfl) ?_
  refine lv_iconst (pc := 1142) (v := 1) hx hb dL_law_1142 (by decide) ?_
  refine z_iadd (pc := 1143) (v := 1) hx hb dL_law_1143 (by decide) ?_
  refine z_sld (pc := 1144) (v := (nI j)) hx hb hX hbl hbA hT 1 rfl (by decide) hs1 dL_law_1144 ?_
  refine lv_aload_n (pc := 1145) hx hb dL_law_1145 rfl (lv_at hl 1 rfl) ?_
  refine lv_iload (pc := 1146) hx hb dL_law_1146 (lv_at hl 5 rfl) ?_
  refine lv_iconst (pc := 1148) (v := 2) hx hb dL_law_1148 (by decide) ?_
  refine z_iadd (pc := 1149) (v := 2) hx hb dL_law_1149 (by decide) ?_
  refine z_sld (pc := 1150) (v := (xs 2)) hx hb hX hbl hbA hT 2 rfl (by decide) rfl dL_law_1150 ?_
  refine z_cVJ (pc := 1151) hx hb hml hown hts hK hA hT lkV_RL_146 (k729_X12_paths l G cy h2 h3 h15 h16 h17 h18 h19 h20 h21 h22 h23 h24 h25 h26 h27 h28 h29 h30 h31 h32 h33 h34 h35 h36 h37 h38 h39 h40 h41 h42 h43 h44 h45 h46 h47 h48 h49 h50 h51 h52 h53 h54 h55 h56 (xs 2) j (by omega) (by omega) hneg) [0, 1] [] rfl rfl rfl rfl rfl 0 rfl rfl (by decide) rfl hl.1 rfl (Nat.le_of_ble_eq_true rfl) dL_law_1151 ⟨Nat.le_of_ble_eq_true rfl, Nat.le_of_ble_eq_true rfl⟩ (fun _ => [(h2, .inr (12, [.int 2, .ref h3, .int 0, .int 0, .int 0, .int (-1), .int 0, .int 0, .ref h15, .ref h16, .ref h17, .ref h18, .int 0, .ref h19, .ref h20, .int 0, .ref h21, .ref h22, .ref h23, .ref h24, .ref h25, .int 0, .ref h26, .ref h27, .ref h28, .int 0, .ref h29, .ref h30, .ref h31, .int 0, .int 0, .ref h32, .ref h33, .ref h34, .int 0, .long 0, .long 0, .ref h35, .ref h36, .ref h37, .ref h38, .ref h39, .ref h40, .ref h41, .ref h42, .ref h43, .ref h44, .int 0, .int 0, .ref h45, .ref h46, .ref h47, .ref h48, .ref h49, .ref h50, .ref h51, .ref h52, .ref h53, .int 0, .int 0, .int 0, .int 0, .long 0, .ref h54, .ref h55, .ref h56, .int 0, .int 0, .long 0]))]) (fun _ => rfl) (fun qs2 H locs hT => ?_)
  refine lv_lstore (pc := 1154) (lv' := [(6, .long 0), (5, .int 2), (0, .ref b), (1, .ref h0), (2, .ref h2), (3, .ref h4), (4, .int 0)]) hx hb dL_law_1154 hl (by decide) rfl (fun ls hl => ?_)
  refine lv_aload_n (pc := 1156) hx hb dL_law_1156 rfl (lv_at hl 4 rfl) ?_
  refine z_cVI (pc := 1157) hx hb hml hown hts hK hA hT lkV_RL_96 (k1052_X12_thrown l G cy h2 h3 h15 h16 h17 h18 h19 h20 h21 h22 h23 h24 h25 h26 h27 h28 h29 h30 h31 h32 h33 h34 h35 h36 h37 h38 h39 h40 h41 h42 h43 h44 h45 h46 h47 h48 h49 h50 h51 h52 h53 h54 h55 h56) [0] [] rfl rfl rfl rfl rfl 0 rfl rfl (by decide) rfl hl.1 rfl (Nat.le_of_ble_eq_true rfl) dL_law_1157 ⟨Nat.le_of_ble_eq_true rfl, Nat.le_of_ble_eq_true rfl⟩ (fun _ => [(h2, .inr (12, [.int 2, .ref h3, .int 0, .int 0, .int 0, .int (-1), .int 0, .int 0, .ref h15, .ref h16, .ref h17, .ref h18, .int 0, .ref h19, .ref h20, .int 0, .ref h21, .ref h22, .ref h23, .ref h24, .ref h25, .int 0, .ref h26, .ref h27, .ref h28, .int 0, .ref h29, .ref h30, .ref h31, .int 0, .int 0, .ref h32, .ref h33, .ref h34, .int 0, .long 0, .long 0, .ref h35, .ref h36, .ref h37, .ref h38, .ref h39, .ref h40, .ref h41, .ref h42, .ref h43, .ref h44, .int 0, .int 0, .ref h45, .ref h46, .ref h47, .ref h48, .ref h49, .ref h50, .ref h51, .ref h52, .ref h53, .int 0, .int 0, .int 0, .int 0, .long 0, .ref h54, .ref h55, .ref h56, .int 0, .int 0, .long 0]))]) (fun _ => rfl) (fun qs3 H locs hT => ?_)
  refine lv_iload (pc := 1160) hx hb dL_law_1160 (lv_at hl 1 rfl) ?_
  refine zb_icmp_eq_t (pc := 1162) (tgt := 1167) hx hb dL_law_1162 (by decide) (by decide) ?_
  refine lv_iload (pc := 1167) hx hb dL_law_1167 (lv_at hl 1 rfl) ?_
  refine zb_if_ne_t (pc := 1169) (tgt := 1183) hx hb dL_law_1169 (by decide) (by decide) ?_
  refine lv_goto (pc := 1183) (tgt := 1719) hx hb dL_law_1183 (by decide) ?_
  exact q_end hx hb hr hlk hX hbl hT (lv_sub hl [2, 6] rfl) (Nat.le_of_ble_eq_true rfl) (Nat.le_of_ble_eq_true rfl)
set_option maxHeartbeats 4000000 in
set_option maxRecDepth 100000 in
theorem q_paths_1_big {p : Program} {l : Launch} {e : Env} {s : State} {m : MethodId} {below : List Frame} {meth : Method} {c : Code} {H : Heap} {locs : List Loc} {ls : Array Slot} {G : va_G} {cy : Nat → ClassId} {b : Nat} {xs : Nat → Int32} (C : zC l G cy p s m meth c b 6 xs) (h0 h1 h2 h3 h4 h5 h6 h7 h8 h9 h10 h11 h12 h13 h14 h15 h16 h17 h18 h19 h20 h21 h22 h23 h24 h25 h26 h27 h28 h29 h30 h31 h32 h33 h34 h35 h36 h37 h38 h39 h40 h41 h42 h43 h44 h45 h46 h47 h48 h49 h50 h51 h52 h53 h54 h55 h56 : Nat) (j : Nat) (hloj : 0 ≤ j) (hhij : j < 6) (hs1 : xs 1 = (nI j)) (hb1 : ¬ ((xs 2) : Int32) < 0) (hb2 : (30 : Int32) < (xs 2)) (hT : zT G (fun q => s.heap.size ≤ q) s.heap H locs [(h0, .inr (11, [.ref h5, .ref h6, .ref h7, .ref h8, .ref h9, .ref h10, .ref h11, .ref h12, .ref h13, .ref h14, .ref h1, .int (-1), .int (-1), .int (-1), .int (-1)])), (h1, .inl (cy 0, 3, .inl (kc 0))), (h2, .inr (12, [.int 0, .ref h3, .int 0, .int 0, .int 0, .int (-1), .int 0, .int 0, .ref h15, .ref h16, .ref h17, .ref h18, .int 0, .ref h19, .ref h20, .int 0, .ref h21, .ref h22, .ref h23, .ref h24, .ref h25, .int 0, .ref h26, .ref h27, .ref h28, .int 0, .ref h29, .ref h30, .ref h31, .int 0, .int 0, .ref h32, .ref h33, .ref h34, .int 0, .long 0, .long 0, .ref h35, .ref h36, .ref h37, .ref h38, .ref h39, .ref h40, .ref h41, .ref h42, .ref h43, .ref h44, .int 0, .int 0, .ref h45, .ref h46, .ref h47, .ref h48, .ref h49, .ref h50, .ref h51, .ref h52, .ref h53, .int 0, .int 0, .int 0, .int 0, .long 0, .ref h54, .ref h55, .ref h56, .int 0, .int 0, .long 0])), (h3, .inl (cy 0, 3, .inl (kc 0)))]) (hl : lv_has ls 8 [(0, .ref b), (1, .ref h0), (2, .ref h2), (3, .ref h4), (4, .int 0)]) : W p l e (zR 1000 600002 7302232) s m #[Value.ref b] below meth c H locs 476 284354 (lw_Z below #[Value.ref b] s) (F0 m 1119 ls []) := by
  obtain ⟨hl0, hx, hb, hr, hml, hown, hts, hX, hbl, hlk, hK, hE, q1, v1, q2, v2, hS⟩ := C
  have hA : ∀ q : Nat, s.heap.size ≤ q → (fun q => s.heap.size ≤ q) q := fun _ h => h
  have hbA : ¬ (fun q => s.heap.size ≤ q) b := Nat.not_le.mpr hbl
  refine lv_aload_n (pc := 1119) hx hb dL_law_1119 rfl (lv_at hl 1 rfl) ?_
  refine lv_aload_n (pc := 1120) hx hb dL_law_1120 rfl (lv_at hl 0 rfl) ?_
  refine lv_iload (pc := 1121) hx hb dL_law_1121 (lv_at hl 4 rfl) ?_
  refine lv_iconst (pc := 1123) (v := 1) hx hb dL_law_1123 (by decide) ?_
  refine z_iadd (pc := 1124) (v := 1) hx hb dL_law_1124 (by decide) ?_
  refine z_sld (pc := 1125) (v := (nI j)) hx hb hX hbl hbA hT 1 rfl (by decide) hs1 dL_law_1125 ?_
  refine lv_aload_n (pc := 1126) hx hb dL_law_1126 rfl (lv_at hl 0 rfl) ?_
  refine lv_iload (pc := 1127) hx hb dL_law_1127 (lv_at hl 4 rfl) ?_
  refine lv_iconst (pc := 1129) (v := 2) hx hb dL_law_1129 (by decide) ?_
  refine z_iadd (pc := 1130) (v := 2) hx hb dL_law_1130 (by decide) ?_
  refine z_sld (pc := 1131) (v := (xs 2)) hx hb hX hbl hbA hT 2 rfl (by decide) rfl dL_law_1131 ?_
  refine lv_aload_n (pc := 1132) hx hb dL_law_1132 rfl (lv_at hl 3 rfl) ?_
  refine z_eHI (pc := 1133) zE_ok hE hx hb hml hown hts hK hA hT lkH_RL_144 ((k877_L_paths l G cy hl0 h0 h1 h4 h5 h6 h7 h8 h9 h10 h11 h12 h13 h14 (xs 2) j (by omega) (by omega) hb1 hb2).e) [0, 1] [2, 3] rfl rfl rfl rfl rfl (by decide) rfl hl.1 rfl (Nat.le_of_ble_eq_true rfl) dL_law_1133 ⟨Nat.le_of_ble_eq_true rfl, Nat.le_of_ble_eq_true rfl⟩ (fun _ => [(h2, .inr (12, [.int 0, .ref h3, .int 0, .int 0, .int 0, .int (-1), .int 0, .int 0, .ref h15, .ref h16, .ref h17, .ref h18, .int 0, .ref h19, .ref h20, .int 0, .ref h21, .ref h22, .ref h23, .ref h24, .ref h25, .int 0, .ref h26, .ref h27, .ref h28, .int 0, .ref h29, .ref h30, .ref h31, .int 0, .int 0, .ref h32, .ref h33, .ref h34, .int 0, .long 0, .long 0, .ref h35, .ref h36, .ref h37, .ref h38, .ref h39, .ref h40, .ref h41, .ref h42, .ref h43, .ref h44, .int 0, .int 0, .ref h45, .ref h46, .ref h47, .ref h48, .ref h49, .ref h50, .ref h51, .ref h52, .ref h53, .int 0, .int 0, .int 0, .int 0, .long 0, .ref h54, .ref h55, .ref h56, .int 0, .int 0, .long 0])), (h3, .inl (cy 0, 3, .inl (kc 0)))]) (fun _ => rfl) (fun qs1 H locs hT => ?_)
  refine lv_istore (pc := 1136) (lv' := [(5, .int 2), (0, .ref b), (1, .ref h0), (2, .ref h2), (3, .ref h4), (4, .int 0)]) hx hb dL_law_1136 hl (by decide) rfl (fun ls hl => ?_)
  refine lv_aload_n (pc := 1138) hx hb dL_law_1138 rfl (lv_at hl 3 rfl) ?_
  refine lv_aload_n (pc := 1139) hx hb dL_law_1139 rfl (lv_at hl 1 rfl) ?_
  refine lv_iload (pc := 1140) hx hb dL_law_1140 (lv_at hl 5 rfl) ?_
  refine lv_iconst (pc := 1142) (v := 1) hx hb dL_law_1142 (by decide) ?_
  refine z_iadd (pc := 1143) (v := 1) hx hb dL_law_1143 (by decide) ?_
  refine z_sld (pc := 1144) (v := (nI j)) hx hb hX hbl hbA hT 1 rfl (by decide) hs1 dL_law_1144 ?_
  refine lv_aload_n (pc := 1145) hx hb dL_law_1145 rfl (lv_at hl 1 rfl) ?_
  refine lv_iload (pc := 1146) hx hb dL_law_1146 (lv_at hl 5 rfl) ?_
  refine lv_iconst (pc := 1148) (v := 2) hx hb dL_law_1148 (by decide) ?_
  refine z_iadd (pc := 1149) (v := 2) hx hb dL_law_1149 (by decide) ?_
  refine z_sld (pc := 1150) (v := (xs 2)) hx hb hX hbl hbA hT 2 rfl (by decide) rfl dL_law_1150 ?_
  refine z_cVJ (pc := 1151) hx hb hml hown hts hK hA hT lkV_RL_146 (k731_X12_paths l G cy h2 h3 h15 h16 h17 h18 h19 h20 h21 h22 h23 h24 h25 h26 h27 h28 h29 h30 h31 h32 h33 h34 h35 h36 h37 h38 h39 h40 h41 h42 h43 h44 h45 h46 h47 h48 h49 h50 h51 h52 h53 h54 h55 h56 (xs 2) j (by omega) (by omega) hb1 hb2) [0, 1] [] rfl rfl rfl rfl rfl 0 rfl rfl (by decide) rfl hl.1 rfl (Nat.le_of_ble_eq_true rfl) dL_law_1151 ⟨Nat.le_of_ble_eq_true rfl, Nat.le_of_ble_eq_true rfl⟩ (fun _ => [(h2, .inr (12, [.int 2, .ref h3, .int 0, .int 0, .int 0, .int (-1), .int 0, .int 0, .ref h15, .ref h16, .ref h17, .ref h18, .int 0, .ref h19, .ref h20, .int 0, .ref h21, .ref h22, .ref h23, .ref h24, .ref h25, .int 0, .ref h26, .ref h27, .ref h28, .int 0, .ref h29, .ref h30, .ref h31, .int 0, .int 0, .ref h32, .ref h33, .ref h34, .int 0, .long 0, .long 0, .ref h35, .ref h36, .ref h37, .ref h38, .ref h39, .ref h40, .ref h41, .ref h42, .ref h43, .ref h44, .int 0, .int 0, .ref h45, .ref h46, .ref h47, .ref h48, .ref h49, .ref h50, .ref h51, .ref h52, .ref h53, .int 0, .int 0, .int 0, .int 0, .long 0, .ref h54, .ref h55, .ref h56, .int 0, .int 0, .long 0]))]) (fun _ => rfl) (fun qs2 H locs hT => ?_)
  refine lv_lstore (pc := 1154) (lv' := [(6, .long 0), (5, .int 2), (0, .ref b), (1, .ref h0), (2, .ref h2), (3, .ref h4), (4, .int 0)]) hx hb dL_law_1154 hl (by decide) rfl (fun ls hl => ?_)
  refine lv_aload_n (pc := 1156) hx hb dL_law_1156 rfl (lv_at hl 4 rfl) ?_
  refine z_cVI (pc := 1157) hx hb hml hown hts hK hA hT lkV_RL_96 (k1052_X12_thrown l G cy h2 h3 h15 h16 h17 h18 h19 h20 h21 h22 h23 h24 h25 h26 h27 h28 h29 h30 h31 h32 h33 h34 h35 h36 h37 h38 h39 h40 h41 h42 h43 h44 h45 h46 h47 h48 h49 h50 h51 h52 h53 h54 h55 h56) [0] [] rfl rfl rfl rfl rfl 0 rfl rfl (by decide) rfl hl.1 rfl (Nat.le_of_ble_eq_true rfl) dL_law_1157 ⟨Nat.le_of_ble_eq_true rfl, Nat.le_of_ble_eq_true rfl⟩ (fun _ => [(h2, .inr (12, [.int 2, .ref h3, .int 0, .int 0, .int 0, .int (-1), .int 0, .int 0, .ref h15, .ref h16, .ref h17, .ref h18, .int 0, .ref h19, .ref h20, .int 0, .ref h21, .ref h22, .ref h23, .ref h24, .ref h25, .int 0, .ref h26, .ref h27, .ref h28, .int 0, .ref h29, .ref h30, .ref h31, .int 0, .int 0, .ref h32, .ref h33, .ref h34, .int 0, .long 0, .long 0, .ref h35, .ref h36, .ref h37, .ref h38, .ref h39, .ref h40, .ref h41, .ref h42, .ref h43, .ref h44, .int 0, .int 0, .ref h45, .ref h46, .ref h47, .ref h48, .ref h49, .ref h50, .ref h51, .ref h52, .ref h53, .int 0, .int 0, .int 0, .int 0, .long 0, .ref h54, .ref h55, .ref h56, .int 0, .int 0, .long 0]))]) (fun _ => rfl) (fun qs3 H locs hT => ?_)
  refine lv_iload (pc := 1160) hx hb dL_law_1160 (lv_at hl 1 rfl) ?_
  refine zb_icmp_eq_t (pc := 1162) (tgt := 1167) hx hb dL_law_1162 (by decide) (by decide) ?_
  refine lv_iload (pc := 1167) hx hb dL_law_1167 (lv_at hl 1 rfl) ?_
  refine zb_if_ne_t (pc := 1169) (tgt := 1183) hx hb dL_law_1169 (by decide) (by decide) ?_
  refine lv_goto (pc := 1183) (tgt := 1719) hx hb dL_law_1183 (by decide) ?_
  exact q_end hx hb hr hlk hX hbl hT (lv_sub hl [2, 6] rfl) (Nat.le_of_ble_eq_true rfl) (Nat.le_of_ble_eq_true rfl)
set_option maxHeartbeats 4000000 in
set_option maxRecDepth 100000 in
theorem q_apart_0_neg {p : Program} {l : Launch} {e : Env} {s : State} {m : MethodId} {below : List Frame} {meth : Method} {c : Code} {H : Heap} {locs : List Loc} {ls : Array Slot} {G : va_G} {cy : Nat → ClassId} {b : Nat} {xs : Nat → Int32} (C : zC l G cy p s m meth c b 6 xs) (h0 h1 h2 h3 h4 h5 h6 h7 h8 h9 h10 h11 h12 h13 h14 h15 h16 h17 h18 h19 h20 h21 h22 h23 h24 h25 h26 h27 h28 h29 h30 h31 h32 h33 h34 h35 h36 h37 h38 h39 h40 h41 h42 h43 h44 h45 h46 h47 h48 h49 h50 h51 h52 h53 h54 h55 h56 : Nat) (hneg : ((xs 1) : Int32) < 0) (hT : zT G (fun q => s.heap.size ≤ q) s.heap H locs [(h0, .inr (11, [.ref h5, .ref h6, .ref h7, .ref h8, .ref h9, .ref h10, .ref h11, .ref h12, .ref h13, .ref h14, .ref h1, .int (-1), .int (-1), .int (-1), .int (-1)])), (h1, .inl (cy 0, 3, .inl (kc 0))), (h2, .inr (12, [.int 0, .ref h3, .int 0, .int 0, .int 0, .int (-1), .int 0, .int 0, .ref h15, .ref h16, .ref h17, .ref h18, .int 0, .ref h19, .ref h20, .int 0, .ref h21, .ref h22, .ref h23, .ref h24, .ref h25, .int 0, .ref h26, .ref h27, .ref h28, .int 0, .ref h29, .ref h30, .ref h31, .int 0, .int 0, .ref h32, .ref h33, .ref h34, .int 0, .long 0, .long 0, .ref h35, .ref h36, .ref h37, .ref h38, .ref h39, .ref h40, .ref h41, .ref h42, .ref h43, .ref h44, .int 0, .int 0, .ref h45, .ref h46, .ref h47, .ref h48, .ref h49, .ref h50, .ref h51, .ref h52, .ref h53, .int 0, .int 0, .int 0, .int 0, .long 0, .ref h54, .ref h55, .ref h56, .int 0, .int 0, .long 0])), (h3, .inl (cy 0, 3, .inl (kc 0)))]) (hl : lv_has ls 8 [(0, .ref b), (1, .ref h0), (2, .ref h2), (3, .ref h4), (4, .int 0)]) : W p l e (zR 1000 600002 7302232) s m #[Value.ref b] below meth c H locs 476 284354 (lw_Z below #[Value.ref b] s) (F0 m 1186 ls []) := by
  obtain ⟨hl0, hx, hb, hr, hml, hown, hts, hX, hbl, hlk, hK, hE, q1, v1, q2, v2, hS⟩ := C
  have hA : ∀ q : Nat, s.heap.size ≤ q → (fun q => s.heap.size ≤ q) q := fun _ h => h
  have hbA : ¬ (fun q => s.heap.size ≤ q) b := Nat.not_le.mpr hbl
  refine lv_aload_n (pc := 1186) hx hb dL_law_1186 rfl (lv_at hl 1 rfl) ?_
  refine lv_aload_n (pc := 1187) hx hb dL_law_1187 rfl (lv_at hl 0 rfl) ?_
  refine lv_iload (pc := 1188) hx hb dL_law_1188 (lv_at hl 4 rfl) ?_
  refine lv_iconst (pc := 1190) (v := 1) hx hb dL_law_1190 (by decide) ?_
  refine z_iadd (pc := 1191) (v := 1) hx hb dL_law_1191 (by decide) ?_
  refine z_sld (pc := 1192) (v := (xs 1)) hx hb hX hbl hbA hT 1 rfl (by decide) rfl dL_law_1192 ?_
  refine lv_aload_n (pc := 1193) hx hb dL_law_1193 rfl (lv_at hl 0 rfl) ?_
  refine lv_iload (pc := 1194) hx hb dL_law_1194 (lv_at hl 4 rfl) ?_
  refine lv_iconst (pc := 1196) (v := 2) hx hb dL_law_1196 (by decide) ?_
  refine z_iadd (pc := 1197) (v := 2) hx hb dL_law_1197 (by decide) ?_
  refine z_sld (pc := 1198) (v := (xs 2)) hx hb hX hbl hbA hT 2 rfl (by decide) rfl dL_law_1198 ?_
  refine lv_aload_n (pc := 1199) hx hb dL_law_1199 rfl (lv_at hl 0 rfl) ?_
  refine lv_iload (pc := 1200) hx hb dL_law_1200 (lv_at hl 4 rfl) ?_
  refine lv_iconst (pc := 1202) (v := 3) hx hb dL_law_1202 (by decide) ?_
  refine z_iadd (pc := 1203) (v := 3) hx hb dL_law_1203 (by decide) ?_
  refine z_sld (pc := 1204) (v := (xs 3)) hx hb hX hbl hbA hT 3 rfl (by decide) rfl dL_law_1204 ?_
  refine lv_aload_n (pc := 1205) hx hb dL_law_1205 rfl (lv_at hl 3 rfl) ?_
  refine z_eHI (pc := 1206) zE_ok hE hx hb hml hown hts hK hA hT lkH_RL_147 ((k878_L_apart l G cy hl0 h0 h1 h4 h5 h6 h7 h8 h9 h10 h11 h12 h13 h14 (xs 1) (xs 2) (xs 3) hneg).e) [0, 1] [2, 3] rfl rfl rfl rfl rfl (by decide) rfl hl.1 rfl (Nat.le_of_ble_eq_true rfl) dL_law_1206 ⟨Nat.le_of_ble_eq_true rfl, Nat.le_of_ble_eq_true rfl⟩ (fun _ => [(h2, .inr (12, [.int 0, .ref h3, .int 0, .int 0, .int 0, .int (-1), .int 0, .int 0, .ref h15, .ref h16, .ref h17, .ref h18, .int 0, .ref h19, .ref h20, .int 0, .ref h21, .ref h22, .ref h23, .ref h24, .ref h25, .int 0, .ref h26, .ref h27, .ref h28, .int 0, .ref h29, .ref h30, .ref h31, .int 0, .int 0, .ref h32, .ref h33, .ref h34, .int 0, .long 0, .long 0, .ref h35, .ref h36, .ref h37, .ref h38, .ref h39, .ref h40, .ref h41, .ref h42, .ref h43, .ref h44, .int 0, .int 0, .ref h45, .ref h46, .ref h47, .ref h48, .ref h49, .ref h50, .ref h51, .ref h52, .ref h53, .int 0, .int 0, .int 0, .int 0, .long 0, .ref h54, .ref h55, .ref h56, .int 0, .int 0, .long 0])), (h3, .inl (cy 0, 3, .inl (kc 0)))]) (fun _ => rfl) (fun qs1 H locs hT => ?_)
  refine lv_istore (pc := 1209) (lv' := [(5, .int 1), (0, .ref b), (1, .ref h0), (2, .ref h2), (3, .ref h4), (4, .int 0)]) hx hb dL_law_1209 hl (by decide) rfl (fun ls hl => ?_)
  refine lv_aload_n (pc := 1211) hx hb dL_law_1211 rfl (lv_at hl 3 rfl) ?_
  refine lv_aload_n (pc := 1212) hx hb dL_law_1212 rfl (lv_at hl 1 rfl) ?_
  refine lv_iload (pc := 1213) hx hb dL_law_1213 (lv_at hl 5 rfl) ?_
  refine lv_iconst (pc := 1215) (v := 1) hx hb dL_law_1215 (by decide) ?_
  refine z_iadd (pc := 1216) (v := 1) hx hb dL_law_1216 (by decide) ?_
  refine z_sld (pc := 1217) (v := (xs 1)) hx hb hX hbl hbA hT 1 rfl (by decide) rfl dL_law_1217 ?_
  refine lv_aload_n (pc := 1218) hx hb dL_law_1218 rfl (lv_at hl 1 rfl) ?_
  refine lv_iload (pc := 1219) hx hb dL_law_1219 (lv_at hl 5 rfl) ?_
  refine lv_iconst (pc := 1221) (v := 2) hx hb dL_law_1221 (by decide) ?_
  refine z_iadd (pc := 1222) (v := 2) hx hb dL_law_1222 (by decide) ?_
  refine z_sld (pc := 1223) (v := (xs 2)) hx hb hX hbl hbA hT 2 rfl (by decide) rfl dL_law_1223 ?_
  refine lv_aload_n (pc := 1224) hx hb dL_law_1224 rfl (lv_at hl 1 rfl) ?_
  refine lv_iload (pc := 1225) hx hb dL_law_1225 (lv_at hl 5 rfl) ?_
  refine lv_iconst (pc := 1227) (v := 3) hx hb dL_law_1227 (by decide) ?_
  refine z_iadd (pc := 1228) (v := 3) hx hb dL_law_1228 (by decide) ?_
  refine z_sld (pc := 1229) (v := (xs 3)) hx hb hX hbl hbA hT 3 rfl (by decide) rfl dL_law_1229 ?_
  refine z_cVI (pc := 1230) hx hb hml hown hts hK hA hT lkV_RL_149 (k732_X12_apart l G cy h2 h3 h15 h16 h17 h18 h19 h20 h21 h22 h23 h24 h25 h26 h27 h28 h29 h30 h31 h32 h33 h34 h35 h36 h37 h38 h39 h40 h41 h42 h43 h44 h45 h46 h47 h48 h49 h50 h51 h52 h53 h54 h55 h56 (xs 1) (xs 2) (xs 3) hneg) [0, 1] [] rfl rfl rfl rfl rfl 0 rfl rfl (by decide) rfl hl.1 rfl (Nat.le_of_ble_eq_true rfl) dL_law_1230 ⟨Nat.le_of_ble_eq_true rfl, Nat.le_of_ble_eq_true rfl⟩ (fun _ => [(h2, .inr (12, [.int 1, .ref h3, .int 0, .int 0, .int 0, .int (-1), .int 0, .int 0, .ref h15, .ref h16, .ref h17, .ref h18, .int 0, .ref h19, .ref h20, .int 0, .ref h21, .ref h22, .ref h23, .ref h24, .ref h25, .int 0, .ref h26, .ref h27, .ref h28, .int 0, .ref h29, .ref h30, .ref h31, .int 0, .int 0, .ref h32, .ref h33, .ref h34, .int 0, .long 0, .long 0, .ref h35, .ref h36, .ref h37, .ref h38, .ref h39, .ref h40, .ref h41, .ref h42, .ref h43, .ref h44, .int 0, .int 0, .ref h45, .ref h46, .ref h47, .ref h48, .ref h49, .ref h50, .ref h51, .ref h52, .ref h53, .int 0, .int 0, .int 0, .int 0, .long 0, .ref h54, .ref h55, .ref h56, .int 0, .int 0, .long 0]))]) (fun _ => rfl) (fun qs2 H locs hT => ?_)
  refine lv_istore (pc := 1233) (lv' := [(6, .int 0), (5, .int 1), (0, .ref b), (1, .ref h0), (2, .ref h2), (3, .ref h4), (4, .int 0)]) hx hb dL_law_1233 hl (by decide) rfl (fun ls hl => ?_)
  refine lv_aload_n (pc := 1235) hx hb dL_law_1235 rfl (lv_at hl 4 rfl) ?_
  refine z_cVI (pc := 1236) hx hb hml hown hts hK hA hT lkV_RL_96 (k1051_X12_thrown l G cy h2 h3 h15 h16 h17 h18 h19 h20 h21 h22 h23 h24 h25 h26 h27 h28 h29 h30 h31 h32 h33 h34 h35 h36 h37 h38 h39 h40 h41 h42 h43 h44 h45 h46 h47 h48 h49 h50 h51 h52 h53 h54 h55 h56) [0] [] rfl rfl rfl rfl rfl 0 rfl rfl (by decide) rfl hl.1 rfl (Nat.le_of_ble_eq_true rfl) dL_law_1236 ⟨Nat.le_of_ble_eq_true rfl, Nat.le_of_ble_eq_true rfl⟩ (fun _ => [(h2, .inr (12, [.int 1, .ref h3, .int 0, .int 0, .int 0, .int (-1), .int 0, .int 0, .ref h15, .ref h16, .ref h17, .ref h18, .int 0, .ref h19, .ref h20, .int 0, .ref h21, .ref h22, .ref h23, .ref h24, .ref h25, .int 0, .ref h26, .ref h27, .ref h28, .int 0, .ref h29, .ref h30, .ref h31, .int 0, .int 0, .ref h32, .ref h33, .ref h34, .int 0, .long 0, .long 0, .ref h35, .ref h36, .ref h37, .ref h38, .ref h39, .ref h40, .ref h41, .ref h42, .ref h43, .ref h44, .int 0, .int 0, .ref h45, .ref h46, .ref h47, .ref h48, .ref h49, .ref h50, .ref h51, .ref h52, .ref h53, .int 0, .int 0, .int 0, .int 0, .long 0, .ref h54, .ref h55, .ref h56, .int 0, .int 0, .long 0]))]) (fun _ => rfl) (fun qs3 H locs hT => ?_)
  refine lv_iload (pc := 1239) hx hb dL_law_1239 (lv_at hl 1 rfl) ?_
  refine zb_icmp_eq_t (pc := 1241) (tgt := 1246) hx hb dL_law_1241 (by decide) (by decide) ?_
  refine lv_iload (pc := 1246) hx hb dL_law_1246 (lv_at hl 1 rfl) ?_
  refine zb_if_ne_t (pc := 1248) (tgt := 1263) hx hb dL_law_1248 (by decide) (by decide) ?_
  refine lv_goto (pc := 1263) (tgt := 1719) hx hb dL_law_1263 (by decide) ?_
  exact q_end hx hb hr hlk hX hbl hT (lv_sub hl [2, 6] rfl) (Nat.le_of_ble_eq_true rfl) (Nat.le_of_ble_eq_true rfl)
set_option maxHeartbeats 4000000 in
set_option maxRecDepth 100000 in
theorem q_apart_0_big {p : Program} {l : Launch} {e : Env} {s : State} {m : MethodId} {below : List Frame} {meth : Method} {c : Code} {H : Heap} {locs : List Loc} {ls : Array Slot} {G : va_G} {cy : Nat → ClassId} {b : Nat} {xs : Nat → Int32} (C : zC l G cy p s m meth c b 6 xs) (h0 h1 h2 h3 h4 h5 h6 h7 h8 h9 h10 h11 h12 h13 h14 h15 h16 h17 h18 h19 h20 h21 h22 h23 h24 h25 h26 h27 h28 h29 h30 h31 h32 h33 h34 h35 h36 h37 h38 h39 h40 h41 h42 h43 h44 h45 h46 h47 h48 h49 h50 h51 h52 h53 h54 h55 h56 : Nat) (hb1 : ¬ ((xs 1) : Int32) < 0) (hb2 : ¬ ((xs 1) : Int32) < 6) (hb3 : (5 : Int32) < (xs 1)) (hT : zT G (fun q => s.heap.size ≤ q) s.heap H locs [(h0, .inr (11, [.ref h5, .ref h6, .ref h7, .ref h8, .ref h9, .ref h10, .ref h11, .ref h12, .ref h13, .ref h14, .ref h1, .int (-1), .int (-1), .int (-1), .int (-1)])), (h1, .inl (cy 0, 3, .inl (kc 0))), (h2, .inr (12, [.int 0, .ref h3, .int 0, .int 0, .int 0, .int (-1), .int 0, .int 0, .ref h15, .ref h16, .ref h17, .ref h18, .int 0, .ref h19, .ref h20, .int 0, .ref h21, .ref h22, .ref h23, .ref h24, .ref h25, .int 0, .ref h26, .ref h27, .ref h28, .int 0, .ref h29, .ref h30, .ref h31, .int 0, .int 0, .ref h32, .ref h33, .ref h34, .int 0, .long 0, .long 0, .ref h35, .ref h36, .ref h37, .ref h38, .ref h39, .ref h40, .ref h41, .ref h42, .ref h43, .ref h44, .int 0, .int 0, .ref h45, .ref h46, .ref h47, .ref h48, .ref h49, .ref h50, .ref h51, .ref h52, .ref h53, .int 0, .int 0, .int 0, .int 0, .long 0, .ref h54, .ref h55, .ref h56, .int 0, .int 0, .long 0])), (h3, .inl (cy 0, 3, .inl (kc 0)))]) (hl : lv_has ls 8 [(0, .ref b), (1, .ref h0), (2, .ref h2), (3, .ref h4), (4, .int 0)]) : W p l e (zR 1000 600002 7302232) s m #[Value.ref b] below meth c H locs 476 284354 (lw_Z below #[Value.ref b] s) (F0 m 1186 ls []) := by
  obtain ⟨hl0, hx, hb, hr, hml, hown, hts, hX, hbl, hlk, hK, hE, q1, v1, q2, v2, hS⟩ := C
  have hA : ∀ q : Nat, s.heap.size ≤ q → (fun q => s.heap.size ≤ q) q := fun _ h => h
  have hbA : ¬ (fun q => s.heap.size ≤ q) b := Nat.not_le.mpr hbl
  refine lv_aload_n (pc := 1186) hx hb dL_law_1186 rfl (lv_at hl 1 rfl) ?_
  refine lv_aload_n (pc := 1187) hx hb dL_law_1187 rfl (lv_at hl 0 rfl) ?_
  refine lv_iload (pc := 1188) hx hb dL_law_1188 (lv_at hl 4 rfl) ?_
  refine lv_iconst (pc := 1190) (v := 1) hx hb dL_law_1190 (by decide) ?_
  refine z_iadd (pc := 1191) (v := 1) hx hb dL_law_1191 (by decide) ?_
  refine z_sld (pc := 1192) (v := (xs 1)) hx hb hX hbl hbA hT 1 rfl (by decide) rfl dL_law_1192 ?_
  refine lv_aload_n (pc := 1193) hx hb dL_law_1193 rfl (lv_at hl 0 rfl) ?_
  refine lv_iload (pc := 1194) hx hb dL_law_1194 (lv_at hl 4 rfl) ?_
  refine lv_iconst (pc := 1196) (v := 2) hx hb dL_law_1196 (by decide) ?_
  refine z_iadd (pc := 1197) (v := 2) hx hb dL_law_1197 (by decide) ?_
  refine z_sld (pc := 1198) (v := (xs 2)) hx hb hX hbl hbA hT 2 rfl (by decide) rfl dL_law_1198 ?_
  refine lv_aload_n (pc := 1199) hx hb dL_law_1199 rfl (lv_at hl 0 rfl) ?_
  refine lv_iload (pc := 1200) hx hb dL_law_1200 (lv_at hl 4 rfl) ?_
  refine lv_iconst (pc := 1202) (v := 3) hx hb dL_law_1202 (by decide) ?_
  refine z_iadd (pc := 1203) (v := 3) hx hb dL_law_1203 (by decide) ?_
  refine z_sld (pc := 1204) (v := (xs 3)) hx hb hX hbl hbA hT 3 rfl (by decide) rfl dL_law_1204 ?_
  refine lv_aload_n (pc := 1205) hx hb dL_law_1205 rfl (lv_at hl 3 rfl) ?_
  refine z_eHI (pc := 1206) zE_ok hE hx hb hml hown hts hK hA hT lkH_RL_147 ((k879_L_apart l G cy hl0 h0 h1 h4 h5 h6 h7 h8 h9 h10 h11 h12 h13 h14 (xs 1) (xs 2) (xs 3) hb1 hb2).e) [0, 1] [2, 3] rfl rfl rfl rfl rfl (by decide) rfl hl.1 rfl (Nat.le_of_ble_eq_true rfl) dL_law_1206 ⟨Nat.le_of_ble_eq_true rfl, Nat.le_of_ble_eq_true rfl⟩ (fun _ => [(h2, .inr (12, [.int 0, .ref h3, .int 0, .int 0, .int 0, .int (-1), .int 0, .int 0, .ref h15, .ref h16, .ref h17, .ref h18, .int 0, .ref h19, .ref h20, .int 0, .ref h21, .ref h22, .ref h23, .ref h24, .ref h25, .int 0, .ref h26, .ref h27, .ref h28, .int 0, .ref h29, .ref h30, .ref h31, .int 0, .int 0, .ref h32, .ref h33, .ref h34, .int 0, .long 0, .long 0, .ref h35, .ref h36, .ref h37, .ref h38, .ref h39, .ref h40, .ref h41, .ref h42, .ref h43, .ref h44, .int 0, .int 0, .ref h45, .ref h46, .ref h47, .ref h48, .ref h49, .ref h50, .ref h51, .ref h52, .ref h53, .int 0, .int 0, .int 0, .int 0, .long 0, .ref h54, .ref h55, .ref h56, .int 0, .int 0, .long 0])), (h3, .inl (cy 0, 3, .inl (kc 0)))]) (fun _ => rfl) (fun qs1 H locs hT => ?_)
  refine lv_istore (pc := 1209) (lv' := [(5, .int 1), (0, .ref b), (1, .ref h0), (2, .ref h2), (3, .ref h4), (4, .int 0)]) hx hb dL_law_1209 hl (by decide) rfl (fun ls hl => ?_)
  refine lv_aload_n (pc := 1211) hx hb dL_law_1211 rfl (lv_at hl 3 rfl) ?_
  refine lv_aload_n (pc := 1212) hx hb dL_law_1212 rfl (lv_at hl 1 rfl) ?_
  refine lv_iload (pc := 1213) hx hb dL_law_1213 (lv_at hl 5 rfl) ?_
  refine lv_iconst (pc := 1215) (v := 1) hx hb dL_law_1215 (by decide) ?_
  refine z_iadd (pc := 1216) (v := 1) hx hb dL_law_1216 (by decide) ?_
  refine z_sld (pc := 1217) (v := (xs 1)) hx hb hX hbl hbA hT 1 rfl (by decide) rfl dL_law_1217 ?_
  refine lv_aload_n (pc := 1218) hx hb dL_law_1218 rfl (lv_at hl 1 rfl) ?_
  refine lv_iload (pc := 1219) hx hb dL_law_1219 (lv_at hl 5 rfl) ?_
  refine lv_iconst (pc := 1221) (v := 2) hx hb dL_law_1221 (by decide) ?_
  refine z_iadd (pc := 1222) (v := 2) hx hb dL_law_1222 (by decide) ?_
  refine z_sld (pc := 1223) (v := (xs 2)) hx hb hX hbl hbA hT 2 rfl (by decide) rfl dL_law_1223 ?_
  refine lv_aload_n (pc := 1224) hx hb dL_law_1224 rfl (lv_at hl 1 rfl) ?_
  refine lv_iload (pc := 1225) hx hb dL_law_1225 (lv_at hl 5 rfl) ?_
  refine lv_iconst (pc := 1227) (v := 3) hx hb dL_law_1227 (by decide) ?_
  refine z_iadd (pc := 1228) (v := 3) hx hb dL_law_1228 (by decide) ?_
  refine z_sld (pc := 1229) (v := (xs 3)) hx hb hX hbl hbA hT 3 rfl (by decide) rfl dL_law_1229 ?_
  refine z_cVI (pc := 1230) hx hb hml hown hts hK hA hT lkV_RL_149 (k733_X12_apart l G cy h2 h3 h15 h16 h17 h18 h19 h20 h21 h22 h23 h24 h25 h26 h27 h28 h29 h30 h31 h32 h33 h34 h35 h36 h37 h38 h39 h40 h41 h42 h43 h44 h45 h46 h47 h48 h49 h50 h51 h52 h53 h54 h55 h56 (xs 1) (xs 2) (xs 3) hb1 hb3) [0, 1] [] rfl rfl rfl rfl rfl 0 rfl rfl (by decide) rfl hl.1 rfl (Nat.le_of_ble_eq_true rfl) dL_law_1230 ⟨Nat.le_of_ble_eq_true rfl, Nat.le_of_ble_eq_true rfl⟩ (fun _ => [(h2, .inr (12, [.int 1, .ref h3, .int 0, .int 0, .int 0, .int (-1), .int 0, .int 0, .ref h15, .ref h16, .ref h17, .ref h18, .int 0, .ref h19, .ref h20, .int 0, .ref h21, .ref h22, .ref h23, .ref h24, .ref h25, .int 0, .ref h26, .ref h27, .ref h28, .int 0, .ref h29, .ref h30, .ref h31, .int 0, .int 0, .ref h32, .ref h33, .ref h34, .int 0, .long 0, .long 0, .ref h35, .ref h36, .ref h37, .ref h38, .ref h39, .ref h40, .ref h41, .ref h42, .ref h43, .ref h44, .int 0, .int 0, .ref h45, .ref h46, .ref h47, .ref h48, .ref h49, .ref h50, .ref h51, .ref h52, .ref h53, .int 0, .int 0, .int 0, .int 0, .long 0, .ref h54, .ref h55, .ref h56, .int 0, .int 0, .long 0]))]) (fun _ => rfl) (fun qs2 H locs hT => ?_)
  refine lv_istore (pc := 1233) (lv' := [(6, .int 0), (5, .int 1), (0, .ref b), (1, .ref h0), (2, .ref h2), (3, .ref h4), (4, .int 0)]) hx hb dL_law_1233 hl (by decide) rfl (fun ls hl => ?_)
  refine lv_aload_n (pc := 1235) hx hb dL_law_1235 rfl (lv_at hl 4 rfl) ?_
  refine z_cVI (pc := 1236) hx hb hml hown hts hK hA hT lkV_RL_96 (k1051_X12_thrown l G cy h2 h3 h15 h16 h17 h18 h19 h20 h21 h22 h23 h24 h25 h26 h27 h28 h29 h30 h31 h32 h33 h34 h35 h36 h37 h38 h39 h40 h41 h42 h43 h44 h45 h46 h47 h48 h49 h50 h51 h52 h53 h54 h55 h56) [0] [] rfl rfl rfl rfl rfl 0 rfl rfl (by decide) rfl hl.1 rfl (Nat.le_of_ble_eq_true rfl) dL_law_1236 ⟨Nat.le_of_ble_eq_true rfl, Nat.le_of_ble_eq_true rfl⟩ (fun _ => [(h2, .inr (12, [.int 1, .ref h3, .int 0, .int 0, .int 0, .int (-1), .int 0, .int 0, .ref h15, .ref h16, .ref h17, .ref h18, .int 0, .ref h19, .ref h20, .int 0, .ref h21, .ref h22, .ref h23, .ref h24, .ref h25, .int 0, .ref h26, .ref h27, .ref h28, .int 0, .ref h29, .ref h30, .ref h31, .int 0, .int 0, .ref h32, .ref h33, .ref h34, .int 0, .long 0, .long 0, .ref h35, .ref h36, .ref h37, .ref h38, .ref h39, .ref h40, .ref h41, .ref h42, .ref h43, .ref h44, .int 0, .int 0, .ref h45, .ref h46, .ref h47, .ref h48, .ref h49, .ref h50, .ref h51, .ref h52, .ref h53, .int 0, .int 0, .int 0, .int 0, .long 0, .ref h54, .ref h55, .ref h56, .int 0, .int 0, .long 0]))]) (fun _ => rfl) (fun qs3 H locs hT => ?_)
  refine lv_iload (pc := 1239) hx hb dL_law_1239 (lv_at hl 1 rfl) ?_
  refine zb_icmp_eq_t (pc := 1241) (tgt := 1246) hx hb dL_law_1241 (by decide) (by decide) ?_
  refine lv_iload (pc := 1246) hx hb dL_law_1246 (lv_at hl 1 rfl) ?_
  refine zb_if_ne_t (pc := 1248) (tgt := 1263) hx hb dL_law_1248 (by decide) (by decide) ?_
  refine lv_goto (pc := 1263) (tgt := 1719) hx hb dL_law_1263 (by decide) ?_
  exact q_end hx hb hr hlk hX hbl hT (lv_sub hl [2, 6] rfl) (Nat.le_of_ble_eq_true rfl) (Nat.le_of_ble_eq_true rfl)
set_option maxHeartbeats 4000000 in
set_option maxRecDepth 100000 in
theorem q_apart_1_neg {p : Program} {l : Launch} {e : Env} {s : State} {m : MethodId} {below : List Frame} {meth : Method} {c : Code} {H : Heap} {locs : List Loc} {ls : Array Slot} {G : va_G} {cy : Nat → ClassId} {b : Nat} {xs : Nat → Int32} (C : zC l G cy p s m meth c b 6 xs) (h0 h1 h2 h3 h4 h5 h6 h7 h8 h9 h10 h11 h12 h13 h14 h15 h16 h17 h18 h19 h20 h21 h22 h23 h24 h25 h26 h27 h28 h29 h30 h31 h32 h33 h34 h35 h36 h37 h38 h39 h40 h41 h42 h43 h44 h45 h46 h47 h48 h49 h50 h51 h52 h53 h54 h55 h56 : Nat) (j : Nat) (hloj : 0 ≤ j) (hhij : j < 6) (hs1 : xs 1 = (nI j)) (hneg : ((xs 2) : Int32) < 0) (hT : zT G (fun q => s.heap.size ≤ q) s.heap H locs [(h0, .inr (11, [.ref h5, .ref h6, .ref h7, .ref h8, .ref h9, .ref h10, .ref h11, .ref h12, .ref h13, .ref h14, .ref h1, .int (-1), .int (-1), .int (-1), .int (-1)])), (h1, .inl (cy 0, 3, .inl (kc 0))), (h2, .inr (12, [.int 0, .ref h3, .int 0, .int 0, .int 0, .int (-1), .int 0, .int 0, .ref h15, .ref h16, .ref h17, .ref h18, .int 0, .ref h19, .ref h20, .int 0, .ref h21, .ref h22, .ref h23, .ref h24, .ref h25, .int 0, .ref h26, .ref h27, .ref h28, .int 0, .ref h29, .ref h30, .ref h31, .int 0, .int 0, .ref h32, .ref h33, .ref h34, .int 0, .long 0, .long 0, .ref h35, .ref h36, .ref h37, .ref h38, .ref h39, .ref h40, .ref h41, .ref h42, .ref h43, .ref h44, .int 0, .int 0, .ref h45, .ref h46, .ref h47, .ref h48, .ref h49, .ref h50, .ref h51, .ref h52, .ref h53, .int 0, .int 0, .int 0, .int 0, .long 0, .ref h54, .ref h55, .ref h56, .int 0, .int 0, .long 0])), (h3, .inl (cy 0, 3, .inl (kc 0)))]) (hl : lv_has ls 8 [(0, .ref b), (1, .ref h0), (2, .ref h2), (3, .ref h4), (4, .int 0)]) : W p l e (zR 1000 600002 7302232) s m #[Value.ref b] below meth c H locs 476 284354 (lw_Z below #[Value.ref b] s) (F0 m 1186 ls []) := by
  obtain ⟨hl0, hx, hb, hr, hml, hown, hts, hX, hbl, hlk, hK, hE, q1, v1, q2, v2, hS⟩ := C
  have hA : ∀ q : Nat, s.heap.size ≤ q → (fun q => s.heap.size ≤ q) q := fun _ h => h
  have hbA : ¬ (fun q => s.heap.size ≤ q) b := Nat.not_le.mpr hbl
  refine lv_aload_n (pc := 1186) hx hb dL_law_1186 rfl (lv_at hl 1 rfl) ?_
  refine lv_aload_n (pc := 1187) hx hb dL_law_1187 rfl (lv_at hl 0 rfl) ?_
  refine lv_iload (pc := 1188) hx hb dL_law_1188 (lv_at hl 4 rfl) ?_
  refine lv_iconst (pc := 1190) (v := 1) hx hb dL_law_1190 (by decide) ?_
  refine z_iadd (pc := 1191) (v := 1) hx hb dL_law_1191 (by decide) ?_
  refine z_sld (pc := 1192) (v := (nI j)) hx hb hX hbl hbA hT 1 rfl (by decide) hs1 dL_law_1192 ?_
  refine lv_aload_n (pc := 1193) hx hb dL_law_1193 rfl (lv_at hl 0 rfl) ?_
  refine lv_iload (pc := 1194) hx hb dL_law_1194 (lv_at hl 4 rfl) ?_
  refine lv_iconst (pc := 1196) (v := 2) hx hb dL_law_1196 (by decide) ?_
  refine z_iadd (pc := 1197) (v := 2) hx hb dL_law_1197 (by decide) ?_
  refine z_sld (pc := 1198) (v := (xs 2)) hx hb hX hbl hbA hT 2 rfl (by decide) rfl dL_law_1198 ?_
  refine lv_aload_n (pc := 1199) hx hb dL_law_1199 rfl (lv_at hl 0 rfl) ?_
  refine lv_iload (pc := 1200) hx hb dL_law_1200 (lv_at hl 4 rfl) ?_
  refine lv_iconst (pc := 1202) (v := 3) hx hb dL_law_1202 (by decide) ?_
  refine z_iadd (pc := 1203) (v := 3) hx hb dL_law_1203 (by decide) ?_
  refine z_sld (pc := 1204) (v := (xs 3)) hx hb hX hbl hbA hT 3 rfl (by decide) rfl dL_law_1204 ?_
  refine lv_aload_n (pc := 1205) hx hb dL_law_1205 rfl (lv_at hl 3 rfl) ?_
  refine z_eHI (pc := 1206) zE_ok hE hx hb hml hown hts hK hA hT lkH_RL_147 ((k880_L_apart l G cy hl0 h0 h1 h4 h5 h6 h7 h8 h9 h10 h11 h12 h13 h14 (xs 2) (xs 3) j (by omega) (by omega) hneg).e) [0, 1] [2, 3] rfl rfl rfl rfl rfl (by decide) rfl hl.1 rfl (Nat.le_of_ble_eq_true rfl) dL_law_1206 ⟨Nat.le_of_ble_eq_true rfl, Nat.le_of_ble_eq_true rfl⟩ (fun _ => [(h2, .inr (12, [.int 0, .ref h3, .int 0, .int 0, .int 0, .int (-1), .int 0, .int 0, .ref h15, .ref h16, .ref h17, .ref h18, .int 0, .ref h19, .ref h20, .int 0, .ref h21, .ref h22, .ref h23, .ref h24, .ref h25, .int 0, .ref h26, .ref h27, .ref h28, .int 0, .ref h29, .ref h30, .ref h31, .int 0, .int 0, .ref h32, .ref h33, .ref h34, .int 0, .long 0, .long 0, .ref h35, .ref h36, .ref h37, .ref h38, .ref h39, .ref h40, .ref h41, .ref h42, .ref h43, .ref h44, .int 0, .int 0, .ref h45, .ref h46, .ref h47, .ref h48, .ref h49, .ref h50, .ref h51, .ref h52, .ref h53, .int 0, .int 0, .int 0, .int 0, .long 0, .ref h54, .ref h55, .ref h56, .int 0, .int 0, .long 0])), (h3, .inl (cy 0, 3, .inl (kc 0)))]) (fun _ => rfl) (fun qs1 H locs hT => ?_)
  refine lv_istore (pc := 1209) (lv' := [(5, .int 1), (0, .ref b), (1, .ref h0), (2, .ref h2), (3, .ref h4), (4, .int 0)]) hx hb dL_law_1209 hl (by decide) rfl (fun ls hl => ?_)
  refine lv_aload_n (pc := 1211) hx hb dL_law_1211 rfl (lv_at hl 3 rfl) ?_
  refine lv_aload_n (pc := 1212) hx hb dL_law_1212 rfl (lv_at hl 1 rfl) ?_
  refine lv_iload (pc := 1213) hx hb dL_law_1213 (lv_at hl 5 rfl) ?_
  refine lv_iconst (pc := 1215) (v := 1) hx hb dL_law_1215 (by decide) ?_
  refine z_iadd (pc := 1216) (v := 1) hx hb dL_law_1216 (by decide) ?_
  refine z_sld (pc := 1217) (v := (nI j)) hx hb hX hbl hbA hT 1 rfl (by decide) hs1 dL_law_1217 ?_
  refine lv_aload_n (pc := 1218) hx hb dL_law_1218 rfl (lv_at hl 1 rfl) ?_
  refine lv_iload (pc := 1219) hx hb dL_law_1219 (lv_at hl 5 rfl) ?_
  refine lv_iconst (pc := 1221) (v := 2) hx hb dL_law_1221 (by decide) ?_
  refine z_iadd (pc := 1222) (v := 2) hx hb dL_law_1222 (by decide) ?_
  refine z_sld (pc := 1223) (v := (xs 2)) hx hb hX hbl hbA hT 2 rfl (by decide) rfl dL_law_1223 ?_
  refine lv_aload_n (pc := 1224) hx hb dL_law_1224 rfl (lv_at hl 1 rfl) ?_
  refine lv_iload (pc := 1225) hx hb dL_law_1225 (lv_at hl 5 rfl) ?_
  refine lv_iconst (pc := 1227) (v := 3) hx hb dL_law_1227 (by decide) ?_
  refine z_iadd (pc := 1228) (v := 3) hx hb dL_law_1228 (by decide) ?_
  refine z_sld (pc := 1229) (v := (xs 3)) hx hb hX hbl hbA hT 3 rfl (by decide) rfl dL_law_1229 ?_
  refine z_cVI (pc := 1230) hx hb hml hown hts hK hA hT lkV_RL_149 (k734_X12_apart l G cy h2 h3 h15 h16 h17 h18 h19 h20 h21 h22 h23 h24 h25 h26 h27 h28 h29 h30 h31 h32 h33 h34 h35 h36 h37 h38 h39 h40 h41 h42 h43 h44 h45 h46 h47 h48 h49 h50 h51 h52 h53 h54 h55 h56 (xs 2) (xs 3) j (by omega) (by omega) hneg) [0, 1] [] rfl rfl rfl rfl rfl 0 rfl rfl (by decide) rfl hl.1 rfl (Nat.le_of_ble_eq_true rfl) dL_law_1230 ⟨Nat.le_of_ble_eq_true rfl, Nat.le_of_ble_eq_true rfl⟩ (fun _ => [(h2, .inr (12, [.int 1, .ref h3, .int 0, .int 0, .int 0, .int (-1), .int 0, .int 0, .ref h15, .ref h16, .ref h17, .ref h18, .int 0, .ref h19, .ref h20, .int 0, .ref h21, .ref h22, .ref h23, .ref h24, .ref h25, .int 0, .ref h26, .ref h27, .ref h28, .int 0, .ref h29, .ref h30, .ref h31, .int 0, .int 0, .ref h32, .ref h33, .ref h34, .int 0, .long 0, .long 0, .ref h35, .ref h36, .ref h37, .ref h38, .ref h39, .ref h40, .ref h41, .ref h42, .ref h43, .ref h44, .int 0, .int 0, .ref h45, .ref h46, .ref h47, .ref h48, .ref h49, .ref h50, .ref h51, .ref h52, .ref h53, .int 0, .int 0, .int 0, .int 0, .long 0, .ref h54, .ref h55, .ref h56, .int 0, .int 0, .long 0]))]) (fun _ => rfl) (fun qs2 H locs hT => ?_)
  refine lv_istore (pc := 1233) (lv' := [(6, .int 0), (5, .int 1), (0, .ref b), (1, .ref h0), (2, .ref h2), (3, .ref h4), (4, .int 0)]) hx hb dL_law_1233 hl (by decide) rfl (fun ls hl => ?_)
  refine lv_aload_n (pc := 1235) hx hb dL_law_1235 rfl (lv_at hl 4 rfl) ?_
  refine z_cVI (pc := 1236) hx hb hml hown hts hK hA hT lkV_RL_96 (k1051_X12_thrown l G cy h2 h3 h15 h16 h17 h18 h19 h20 h21 h22 h23 h24 h25 h26 h27 h28 h29 h30 h31 h32 h33 h34 h35 h36 h37 h38 h39 h40 h41 h42 h43 h44 h45 h46 h47 h48 h49 h50 h51 h52 h53 h54 h55 h56) [0] [] rfl rfl rfl rfl rfl 0 rfl rfl (by decide) rfl hl.1 rfl (Nat.le_of_ble_eq_true rfl) dL_law_1236 ⟨Nat.le_of_ble_eq_true rfl, Nat.le_of_ble_eq_true rfl⟩ (fun _ => [(h2, .inr (12, [.int 1, .ref h3, .int 0, .int 0, .int 0, .int (-1), .int 0, .int 0, .ref h15, .ref h16, .ref h17, .ref h18, .int 0, .ref h19, .ref h20, .int 0, .ref h21, .ref h22, .ref h23, .ref h24, .ref h25, .int 0, .ref h26, .ref h27, .ref h28, .int 0, .ref h29, .ref h30, .ref h31, .int 0, .int 0, .ref h32, .ref h33, .ref h34, .int 0, .long 0, .long 0, .ref h35, .ref h36, .ref h37, .ref h38, .ref h39, .ref h40, .ref h41, .ref h42, .ref h43, .ref h44, .int 0, .int 0, .ref h45, .ref h46, .ref h47, .ref h48, .ref h49, .ref h50, .ref h51, .ref h52, .ref h53, .int 0, .int 0, .int 0, .int 0, .long 0, .ref h54, .ref h55, .ref h56, .int 0, .int 0, .long 0]))]) (fun _ => rfl) (fun qs3 H locs hT => ?_)
  refine lv_iload (pc := 1239) hx hb dL_law_1239 (lv_at hl 1 rfl) ?_
  refine zb_icmp_eq_t (pc := 1241) (tgt := 1246) hx hb dL_law_1241 (by decide) (by decide) ?_
  refine lv_iload (pc := 1246) hx hb dL_law_1246 (lv_at hl 1 rfl) ?_
  refine zb_if_ne_t (pc := 1248) (tgt := 1263) hx hb dL_law_1248 (by decide) (by decide) ?_
  refine lv_goto (pc := 1263) (tgt := 1719) hx hb dL_law_1263 (by decide) ?_
  exact q_end hx hb hr hlk hX hbl hT (lv_sub hl [2, 6] rfl) (Nat.le_of_ble_eq_true rfl) (Nat.le_of_ble_eq_true rfl)
set_option maxHeartbeats 4000000 in
set_option maxRecDepth 100000 in
theorem q_apart_1_big {p : Program} {l : Launch} {e : Env} {s : State} {m : MethodId} {below : List Frame} {meth : Method} {c : Code} {H : Heap} {locs : List Loc} {ls : Array Slot} {G : va_G} {cy : Nat → ClassId} {b : Nat} {xs : Nat → Int32} (C : zC l G cy p s m meth c b 6 xs) (h0 h1 h2 h3 h4 h5 h6 h7 h8 h9 h10 h11 h12 h13 h14 h15 h16 h17 h18 h19 h20 h21 h22 h23 h24 h25 h26 h27 h28 h29 h30 h31 h32 h33 h34 h35 h36 h37 h38 h39 h40 h41 h42 h43 h44 h45 h46 h47 h48 h49 h50 h51 h52 h53 h54 h55 h56 : Nat) (j : Nat) (hloj : 0 ≤ j) (hhij : j < 6) (hs1 : xs 1 = (nI j)) (hb1 : ¬ ((xs 2) : Int32) < 0) (hb2 : ¬ ((xs 2) : Int32) < 6) (hb3 : (5 : Int32) < (xs 2)) (hT : zT G (fun q => s.heap.size ≤ q) s.heap H locs [(h0, .inr (11, [.ref h5, .ref h6, .ref h7, .ref h8, .ref h9, .ref h10, .ref h11, .ref h12, .ref h13, .ref h14, .ref h1, .int (-1), .int (-1), .int (-1), .int (-1)])), (h1, .inl (cy 0, 3, .inl (kc 0))), (h2, .inr (12, [.int 0, .ref h3, .int 0, .int 0, .int 0, .int (-1), .int 0, .int 0, .ref h15, .ref h16, .ref h17, .ref h18, .int 0, .ref h19, .ref h20, .int 0, .ref h21, .ref h22, .ref h23, .ref h24, .ref h25, .int 0, .ref h26, .ref h27, .ref h28, .int 0, .ref h29, .ref h30, .ref h31, .int 0, .int 0, .ref h32, .ref h33, .ref h34, .int 0, .long 0, .long 0, .ref h35, .ref h36, .ref h37, .ref h38, .ref h39, .ref h40, .ref h41, .ref h42, .ref h43, .ref h44, .int 0, .int 0, .ref h45, .ref h46, .ref h47, .ref h48, .ref h49, .ref h50, .ref h51, .ref h52, .ref h53, .int 0, .int 0, .int 0, .int 0, .long 0, .ref h54, .ref h55, .ref h56, .int 0, .int 0, .long 0])), (h3, .inl (cy 0, 3, .inl (kc 0)))]) (hl : lv_has ls 8 [(0, .ref b), (1, .ref h0), (2, .ref h2), (3, .ref h4), (4, .int 0)]) : W p l e (zR 1000 600002 7302232) s m #[Value.ref b] below meth c H locs 476 284354 (lw_Z below #[Value.ref b] s) (F0 m 1186 ls []) := by
  obtain ⟨hl0, hx, hb, hr, hml, hown, hts, hX, hbl, hlk, hK, hE, q1, v1, q2, v2, hS⟩ := C
  have hA : ∀ q : Nat, s.heap.size ≤ q → (fun q => s.heap.size ≤ q) q := fun _ h => h
  have hbA : ¬ (fun q => s.heap.size ≤ q) b := Nat.not_le.mpr hbl
  refine lv_aload_n (pc := 1186) hx hb dL_law_1186 rfl (lv_at hl 1 rfl) ?_
  refine lv_aload_n (pc := 1187) hx hb dL_law_1187 rfl (lv_at hl 0 rfl) ?_
  refine lv_iload (pc := 1188) hx hb dL_law_1188 (lv_at hl 4 rfl) ?_
  refine lv_iconst (pc := 1190) (v := 1) hx hb dL_law_1190 (by decide) ?_
  refine z_iadd (pc := 1191) (v := 1) hx hb dL_law_1191 (by decide) ?_
  refine z_sld (pc := 1192) (v := (nI j)) hx hb hX hbl hbA hT 1 rfl (by decide) hs1 dL_law_1192 ?_
  refine lv_aload_n (pc := 1193) hx hb dL_law_1193 rfl (lv_at hl 0 rfl) ?_
  refine lv_iload (pc := 1194) hx hb dL_law_1194 (lv_at hl 4 rfl) ?_
  refine lv_iconst (pc := 1196) (v := 2) hx hb dL_law_1196 (by decide) ?_
  refine z_iadd (pc := 1197) (v := 2) hx hb dL_law_1197 (by decide) ?_
  refine z_sld (pc := 1198) (v := (xs 2)) hx hb hX hbl hbA hT 2 rfl (by decide) rfl dL_law_1198 ?_
  refine lv_aload_n (pc := 1199) hx hb dL_law_1199 rfl (lv_at hl 0 rfl) ?_
  refine lv_iload (pc := 1200) hx hb dL_law_1200 (lv_at hl 4 rfl) ?_
  refine lv_iconst (pc := 1202) (v := 3) hx hb dL_law_1202 (by decide) ?_
  refine z_iadd (pc := 1203) (v := 3) hx hb dL_law_1203 (by decide) ?_
  refine z_sld (pc := 1204) (v := (xs 3)) hx hb hX hbl hbA hT 3 rfl (by decide) rfl dL_law_1204 ?_
  refine lv_aload_n (pc := 1205) hx hb dL_law_1205 rfl (lv_at hl 3 rfl) ?_
  refine z_eHI (pc := 1206) zE_ok hE hx hb hml hown hts hK hA hT lkH_RL_147 ((k881_L_apart l G cy hl0 h0 h1 h4 h5 h6 h7 h8 h9 h10 h11 h12 h13 h14 (xs 2) (xs 3) j (by omega) (by omega) hb1 hb2).e) [0, 1] [2, 3] rfl rfl rfl rfl rfl (by decide) rfl hl.1 rfl (Nat.le_of_ble_eq_true rfl) dL_law_1206 ⟨Nat.le_of_ble_eq_true rfl, Nat.le_of_ble_eq_true rfl⟩ (fun _ => [(h2, .inr (12, [.int 0, .ref h3, .int 0, .int 0, .int 0, .int (-1), .int 0, .int 0, .ref h15, .ref h16, .ref h17, .ref h18, .int 0, .ref h19, .ref h20, .int 0, .ref h21, .ref h22, .ref h23, .ref h24, .ref h25, .int 0, .ref h26, .ref h27, .ref h28, .int 0, .ref h29, .ref h30, .ref h31, .int 0, .int 0, .ref h32, .ref h33, .ref h34, .int 0, .long 0, .long 0, .ref h35, .ref h36, .ref h37, .ref h38, .ref h39, .ref h40, .ref h41, .ref h42, .ref h43, .ref h44, .int 0, .int 0, .ref h45, .ref h46, .ref h47, .ref h48, .ref h49, .ref h50, .ref h51, .ref h52, .ref h53, .int 0, .int 0, .int 0, .int 0, .long 0, .ref h54, .ref h55, .ref h56, .int 0, .int 0, .long 0])), (h3, .inl (cy 0, 3, .inl (kc 0)))]) (fun _ => rfl) (fun qs1 H locs hT => ?_)
  refine lv_istore (pc := 1209) (lv' := [(5, .int 1), (0, .ref b), (1, .ref h0), (2, .ref h2), (3, .ref h4), (4, .int 0)]) hx hb dL_law_1209 hl (by decide) rfl (fun ls hl => ?_)
  refine lv_aload_n (pc := 1211) hx hb dL_law_1211 rfl (lv_at hl 3 rfl) ?_
  refine lv_aload_n (pc := 1212) hx hb dL_law_1212 rfl (lv_at hl 1 rfl) ?_
  refine lv_iload (pc := 1213) hx hb dL_law_1213 (lv_at hl 5 rfl) ?_
  refine lv_iconst (pc := 1215) (v := 1) hx hb dL_law_1215 (by decide) ?_
  refine z_iadd (pc := 1216) (v := 1) hx hb dL_law_1216 (by decide) ?_
  refine z_sld (pc := 1217) (v := (nI j)) hx hb hX hbl hbA hT 1 rfl (by decide) hs1 dL_law_1217 ?_
  refine lv_aload_n (pc := 1218) hx hb dL_law_1218 rfl (lv_at hl 1 rfl) ?_
  refine lv_iload (pc := 1219) hx hb dL_law_1219 (lv_at hl 5 rfl) ?_
  refine lv_iconst (pc := 1221) (v := 2) hx hb dL_law_1221 (by decide) ?_
  refine z_iadd (pc := 1222) (v := 2) hx hb dL_law_1222 (by decide) ?_
  refine z_sld (pc := 1223) (v := (xs 2)) hx hb hX hbl hbA hT 2 rfl (by decide) rfl dL_law_1223 ?_
  refine lv_aload_n (pc := 1224) hx hb dL_law_1224 rfl (lv_at hl 1 rfl) ?_
  refine lv_iload (pc := 1225) hx hb dL_law_1225 (lv_at hl 5 rfl) ?_
  refine lv_iconst (pc := 1227) (v := 3) hx hb dL_law_1227 (by decide) ?_
  refine z_iadd (pc := 1228) (v := 3) hx hb dL_law_1228 (by decide) ?_
  refine z_sld (pc := 1229) (v := (xs 3)) hx hb hX hbl hbA hT 3 rfl (by decide) rfl dL_law_1229 ?_
  refine z_cVI (pc := 1230) hx hb hml hown hts hK hA hT lkV_RL_149 (k735_X12_apart l G cy h2 h3 h15 h16 h17 h18 h19 h20 h21 h22 h23 h24 h25 h26 h27 h28 h29 h30 h31 h32 h33 h34 h35 h36 h37 h38 h39 h40 h41 h42 h43 h44 h45 h46 h47 h48 h49 h50 h51 h52 h53 h54 h55 h56 (xs 2) (xs 3) j (by omega) (by omega) hb1 hb3) [0, 1] [] rfl rfl rfl rfl rfl 0 rfl rfl (by decide) rfl hl.1 rfl (Nat.le_of_ble_eq_true rfl) dL_law_1230 ⟨Nat.le_of_ble_eq_true rfl, Nat.le_of_ble_eq_true rfl⟩ (fun _ => [(h2, .inr (12, [.int 1, .ref h3, .int 0, .int 0, .int 0, .int (-1), .int 0, .int 0, .ref h15, .ref h16, .ref h17, .ref h18, .int 0, .ref h19, .ref h20, .int 0, .ref h21, .ref h22, .ref h23, .ref h24, .ref h25, .int 0, .ref h26, .ref h27, .ref h28, .int 0, .ref h29, .ref h30, .ref h31, .int 0, .int 0, .ref h32, .ref h33, .ref h34, .int 0, .long 0, .long 0, .ref h35, .ref h36, .ref h37, .ref h38, .ref h39, .ref h40, .ref h41, .ref h42, .ref h43, .ref h44, .int 0, .int 0, .ref h45, .ref h46, .ref h47, .ref h48, .ref h49, .ref h50, .ref h51, .ref h52, .ref h53, .int 0, .int 0, .int 0, .int 0, .long 0, .ref h54, .ref h55, .ref h56, .int 0, .int 0, .long 0]))]) (fun _ => rfl) (fun qs2 H locs hT => ?_)
  refine lv_istore (pc := 1233) (lv' := [(6, .int 0), (5, .int 1), (0, .ref b), (1, .ref h0), (2, .ref h2), (3, .ref h4), (4, .int 0)]) hx hb dL_law_1233 hl (by decide) rfl (fun ls hl => ?_)
  refine lv_aload_n (pc := 1235) hx hb dL_law_1235 rfl (lv_at hl 4 rfl) ?_
  refine z_cVI (pc := 1236) hx hb hml hown hts hK hA hT lkV_RL_96 (k1051_X12_thrown l G cy h2 h3 h15 h16 h17 h18 h19 h20 h21 h22 h23 h24 h25 h26 h27 h28 h29 h30 h31 h32 h33 h34 h35 h36 h37 h38 h39 h40 h41 h42 h43 h44 h45 h46 h47 h48 h49 h50 h51 h52 h53 h54 h55 h56) [0] [] rfl rfl rfl rfl rfl 0 rfl rfl (by decide) rfl hl.1 rfl (Nat.le_of_ble_eq_true rfl) dL_law_1236 ⟨Nat.le_of_ble_eq_true rfl, Nat.le_of_ble_eq_true rfl⟩ (fun _ => [(h2, .inr (12, [.int 1, .ref h3, .int 0, .int 0, .int 0, .int (-1), .int 0, .int 0, .ref h15, .ref h16, .ref h17, .ref h18, .int 0, .ref h19, .ref h20, .int 0, .ref h21, .ref h22, .ref h23, .ref h24, .ref h25, .int 0, .ref h26, .ref h27, .ref h28, .int 0, .ref h29, .ref h30, .ref h31, .int 0, .int 0, .ref h32, .ref h33, .ref h34, .int 0, .long 0, .long 0, .ref h35, .ref h36, .ref h37, .ref h38, .ref h39, .ref h40, .ref h41, .ref h42, .ref h43, .ref h44, .int 0, .int 0, .ref h45, .ref h46, .ref h47, .ref h48, .ref h49, .ref h50, .ref h51, .ref h52, .ref h53, .int 0, .int 0, .int 0, .int 0, .long 0, .ref h54, .ref h55, .ref h56, .int 0, .int 0, .long 0]))]) (fun _ => rfl) (fun qs3 H locs hT => ?_)
  refine lv_iload (pc := 1239) hx hb dL_law_1239 (lv_at hl 1 rfl) ?_
  refine zb_icmp_eq_t (pc := 1241) (tgt := 1246) hx hb dL_law_1241 (by decide) (by decide) ?_
  refine lv_iload (pc := 1246) hx hb dL_law_1246 (lv_at hl 1 rfl) ?_
  refine zb_if_ne_t (pc := 1248) (tgt := 1263) hx hb dL_law_1248 (by decide) (by decide) ?_
  refine lv_goto (pc := 1263) (tgt := 1719) hx hb dL_law_1263 (by decide) ?_
  exact q_end hx hb hr hlk hX hbl hT (lv_sub hl [2, 6] rfl) (Nat.le_of_ble_eq_true rfl) (Nat.le_of_ble_eq_true rfl)
set_option maxHeartbeats 4000000 in
set_option maxRecDepth 100000 in
theorem q_twins_0_neg {p : Program} {l : Launch} {e : Env} {s : State} {m : MethodId} {below : List Frame} {meth : Method} {c : Code} {H : Heap} {locs : List Loc} {ls : Array Slot} {G : va_G} {cy : Nat → ClassId} {b : Nat} {xs : Nat → Int32} (C : zC l G cy p s m meth c b 6 xs) (h0 h1 h2 h3 h4 h5 h6 h7 h8 h9 h10 h11 h12 h13 h14 h15 h16 h17 h18 h19 h20 h21 h22 h23 h24 h25 h26 h27 h28 h29 h30 h31 h32 h33 h34 h35 h36 h37 h38 h39 h40 h41 h42 h43 h44 h45 h46 h47 h48 h49 h50 h51 h52 h53 h54 h55 h56 : Nat) (hneg : ((xs 1) : Int32) < 0) (hT : zT G (fun q => s.heap.size ≤ q) s.heap H locs [(h0, .inr (11, [.ref h5, .ref h6, .ref h7, .ref h8, .ref h9, .ref h10, .ref h11, .ref h12, .ref h13, .ref h14, .ref h1, .int (-1), .int (-1), .int (-1), .int (-1)])), (h1, .inl (cy 0, 3, .inl (kc 0))), (h2, .inr (12, [.int 0, .ref h3, .int 0, .int 0, .int 0, .int (-1), .int 0, .int 0, .ref h15, .ref h16, .ref h17, .ref h18, .int 0, .ref h19, .ref h20, .int 0, .ref h21, .ref h22, .ref h23, .ref h24, .ref h25, .int 0, .ref h26, .ref h27, .ref h28, .int 0, .ref h29, .ref h30, .ref h31, .int 0, .int 0, .ref h32, .ref h33, .ref h34, .int 0, .long 0, .long 0, .ref h35, .ref h36, .ref h37, .ref h38, .ref h39, .ref h40, .ref h41, .ref h42, .ref h43, .ref h44, .int 0, .int 0, .ref h45, .ref h46, .ref h47, .ref h48, .ref h49, .ref h50, .ref h51, .ref h52, .ref h53, .int 0, .int 0, .int 0, .int 0, .long 0, .ref h54, .ref h55, .ref h56, .int 0, .int 0, .long 0])), (h3, .inl (cy 0, 3, .inl (kc 0)))]) (hl : lv_has ls 8 [(0, .ref b), (1, .ref h0), (2, .ref h2), (3, .ref h4), (4, .int 0)]) : W p l e (zR 1000 600002 7302232) s m #[Value.ref b] below meth c H locs 476 284354 (lw_Z below #[Value.ref b] s) (F0 m 1266 ls []) := by
  obtain ⟨hl0, hx, hb, hr, hml, hown, hts, hX, hbl, hlk, hK, hE, q1, v1, q2, v2, hS⟩ := C
  have hA : ∀ q : Nat, s.heap.size ≤ q → (fun q => s.heap.size ≤ q) q := fun _ h => h
  have hbA : ¬ (fun q => s.heap.size ≤ q) b := Nat.not_le.mpr hbl
  refine lv_aload_n (pc := 1266) hx hb dL_law_1266 rfl (lv_at hl 1 rfl) ?_
  refine lv_aload_n (pc := 1267) hx hb dL_law_1267 rfl (lv_at hl 0 rfl) ?_
  refine lv_iload (pc := 1268) hx hb dL_law_1268 (lv_at hl 4 rfl) ?_
  refine lv_iconst (pc := 1270) (v := 1) hx hb dL_law_1270 (by decide) ?_
  refine z_iadd (pc := 1271) (v := 1) hx hb dL_law_1271 (by decide) ?_
  refine z_sld (pc := 1272) (v := (xs 1)) hx hb hX hbl hbA hT 1 rfl (by decide) rfl dL_law_1272 ?_
  refine lv_aload_n (pc := 1273) hx hb dL_law_1273 rfl (lv_at hl 3 rfl) ?_
  refine z_eHI (pc := 1274) zE_ok hE hx hb hml hown hts hK hA hT lkH_RL_150 ((k882_L_twins l G cy hl0 h0 h1 h4 h5 h6 h7 h8 h9 h10 h11 h12 h13 h14 (xs 1) hneg).e) [0, 1] [2, 3] rfl rfl rfl rfl rfl (by decide) rfl hl.1 rfl (Nat.le_of_ble_eq_true rfl) dL_law_1274 ⟨Nat.le_of_ble_eq_true rfl, Nat.le_of_ble_eq_true rfl⟩ (fun _ => [(h2, .inr (12, [.int 0, .ref h3, .int 0, .int 0, .int 0, .int (-1), .int 0, .int 0, .ref h15, .ref h16, .ref h17, .ref h18, .int 0, .ref h19, .ref h20, .int 0, .ref h21, .ref h22, .ref h23, .ref h24, .ref h25, .int 0, .ref h26, .ref h27, .ref h28, .int 0, .ref h29, .ref h30, .ref h31, .int 0, .int 0, .ref h32, .ref h33, .ref h34, .int 0, .long 0, .long 0, .ref h35, .ref h36, .ref h37, .ref h38, .ref h39, .ref h40, .ref h41, .ref h42, .ref h43, .ref h44, .int 0, .int 0, .ref h45, .ref h46, .ref h47, .ref h48, .ref h49, .ref h50, .ref h51, .ref h52, .ref h53, .int 0, .int 0, .int 0, .int 0, .long 0, .ref h54, .ref h55, .ref h56, .int 0, .int 0, .long 0])), (h3, .inl (cy 0, 3, .inl (kc 0)))]) (fun _ => rfl) (fun qs1 H locs hT => ?_)
  refine lv_istore (pc := 1277) (lv' := [(5, .int 1), (0, .ref b), (1, .ref h0), (2, .ref h2), (3, .ref h4), (4, .int 0)]) hx hb dL_law_1277 hl (by decide) rfl (fun ls hl => ?_)
  refine lv_aload_n (pc := 1279) hx hb dL_law_1279 rfl (lv_at hl 3 rfl) ?_
  refine lv_aload_n (pc := 1280) hx hb dL_law_1280 rfl (lv_at hl 1 rfl) ?_
  refine lv_iload (pc := 1281) hx hb dL_law_1281 (lv_at hl 5 rfl) ?_
  refine lv_iconst (pc := 1283) (v := 1) hx hb dL_law_1283 (by decide) ?_
  refine z_iadd (pc := 1284) (v := 1) hx hb dL_law_1284 (by decide) ?_
  refine z_sld (pc := 1285) (v := (xs 1)) hx hb hX hbl hbA hT 1 rfl (by decide) rfl dL_law_1285 ?_
  refine z_cVI (pc := 1286) hx hb hml hown hts hK hA hT lkV_RL_152 (k736_X12_twins l G cy h2 h3 h15 h16 h17 h18 h19 h20 h21 h22 h23 h24 h25 h26 h27 h28 h29 h30 h31 h32 h33 h34 h35 h36 h37 h38 h39 h40 h41 h42 h43 h44 h45 h46 h47 h48 h49 h50 h51 h52 h53 h54 h55 h56 (xs 1) hneg) [0, 1] [] rfl rfl rfl rfl rfl 0 rfl rfl (by decide) rfl hl.1 rfl (Nat.le_of_ble_eq_true rfl) dL_law_1286 ⟨Nat.le_of_ble_eq_true rfl, Nat.le_of_ble_eq_true rfl⟩ (fun _ => [(h2, .inr (12, [.int 1, .ref h3, .int 0, .int 0, .int 0, .int (-1), .int 0, .int 0, .ref h15, .ref h16, .ref h17, .ref h18, .int 0, .ref h19, .ref h20, .int 0, .ref h21, .ref h22, .ref h23, .ref h24, .ref h25, .int 0, .ref h26, .ref h27, .ref h28, .int 0, .ref h29, .ref h30, .ref h31, .int 0, .int 0, .ref h32, .ref h33, .ref h34, .int 0, .long 0, .long 0, .ref h35, .ref h36, .ref h37, .ref h38, .ref h39, .ref h40, .ref h41, .ref h42, .ref h43, .ref h44, .int 0, .int 0, .ref h45, .ref h46, .ref h47, .ref h48, .ref h49, .ref h50, .ref h51, .ref h52, .ref h53, .int 0, .int 0, .int 0, .int 0, .long 0, .ref h54, .ref h55, .ref h56, .int 0, .int 0, .long 0]))]) (fun _ => rfl) (fun qs2 H locs hT => ?_)
  refine lv_istore (pc := 1289) (lv' := [(6, .int 0), (5, .int 1), (0, .ref b), (1, .ref h0), (2, .ref h2), (3, .ref h4), (4, .int 0)]) hx hb dL_law_1289 hl (by decide) rfl (fun ls hl => ?_)
  refine lv_aload_n (pc := 1291) hx hb dL_law_1291 rfl (lv_at hl 4 rfl) ?_
  refine z_cVI (pc := 1292) hx hb hml hown hts hK hA hT lkV_RL_96 (k1051_X12_thrown l G cy h2 h3 h15 h16 h17 h18 h19 h20 h21 h22 h23 h24 h25 h26 h27 h28 h29 h30 h31 h32 h33 h34 h35 h36 h37 h38 h39 h40 h41 h42 h43 h44 h45 h46 h47 h48 h49 h50 h51 h52 h53 h54 h55 h56) [0] [] rfl rfl rfl rfl rfl 0 rfl rfl (by decide) rfl hl.1 rfl (Nat.le_of_ble_eq_true rfl) dL_law_1292 ⟨Nat.le_of_ble_eq_true rfl, Nat.le_of_ble_eq_true rfl⟩ (fun _ => [(h2, .inr (12, [.int 1, .ref h3, .int 0, .int 0, .int 0, .int (-1), .int 0, .int 0, .ref h15, .ref h16, .ref h17, .ref h18, .int 0, .ref h19, .ref h20, .int 0, .ref h21, .ref h22, .ref h23, .ref h24, .ref h25, .int 0, .ref h26, .ref h27, .ref h28, .int 0, .ref h29, .ref h30, .ref h31, .int 0, .int 0, .ref h32, .ref h33, .ref h34, .int 0, .long 0, .long 0, .ref h35, .ref h36, .ref h37, .ref h38, .ref h39, .ref h40, .ref h41, .ref h42, .ref h43, .ref h44, .int 0, .int 0, .ref h45, .ref h46, .ref h47, .ref h48, .ref h49, .ref h50, .ref h51, .ref h52, .ref h53, .int 0, .int 0, .int 0, .int 0, .long 0, .ref h54, .ref h55, .ref h56, .int 0, .int 0, .long 0]))]) (fun _ => rfl) (fun qs3 H locs hT => ?_)
  refine lv_iload (pc := 1295) hx hb dL_law_1295 (lv_at hl 1 rfl) ?_
  refine zb_icmp_eq_t (pc := 1297) (tgt := 1302) hx hb dL_law_1297 (by decide) (by decide) ?_
  refine lv_iload (pc := 1302) hx hb dL_law_1302 (lv_at hl 1 rfl) ?_
  refine zb_if_ne_t (pc := 1304) (tgt := 1319) hx hb dL_law_1304 (by decide) (by decide) ?_
  refine lv_goto (pc := 1319) (tgt := 1719) hx hb dL_law_1319 (by decide) ?_
  exact q_end hx hb hr hlk hX hbl hT (lv_sub hl [2, 6] rfl) (Nat.le_of_ble_eq_true rfl) (Nat.le_of_ble_eq_true rfl)
set_option maxHeartbeats 4000000 in
set_option maxRecDepth 100000 in
theorem q_twins_0_big {p : Program} {l : Launch} {e : Env} {s : State} {m : MethodId} {below : List Frame} {meth : Method} {c : Code} {H : Heap} {locs : List Loc} {ls : Array Slot} {G : va_G} {cy : Nat → ClassId} {b : Nat} {xs : Nat → Int32} (C : zC l G cy p s m meth c b 6 xs) (h0 h1 h2 h3 h4 h5 h6 h7 h8 h9 h10 h11 h12 h13 h14 h15 h16 h17 h18 h19 h20 h21 h22 h23 h24 h25 h26 h27 h28 h29 h30 h31 h32 h33 h34 h35 h36 h37 h38 h39 h40 h41 h42 h43 h44 h45 h46 h47 h48 h49 h50 h51 h52 h53 h54 h55 h56 : Nat) (hb1 : ¬ ((xs 1) : Int32) < 0) (hb2 : ¬ ((xs 1) : Int32) < 6) (hb3 : (5 : Int32) < (xs 1)) (hT : zT G (fun q => s.heap.size ≤ q) s.heap H locs [(h0, .inr (11, [.ref h5, .ref h6, .ref h7, .ref h8, .ref h9, .ref h10, .ref h11, .ref h12, .ref h13, .ref h14, .ref h1, .int (-1), .int (-1), .int (-1), .int (-1)])), (h1, .inl (cy 0, 3, .inl (kc 0))), (h2, .inr (12, [.int 0, .ref h3, .int 0, .int 0, .int 0, .int (-1), .int 0, .int 0, .ref h15, .ref h16, .ref h17, .ref h18, .int 0, .ref h19, .ref h20, .int 0, .ref h21, .ref h22, .ref h23, .ref h24, .ref h25, .int 0, .ref h26, .ref h27, .ref h28, .int 0, .ref h29, .ref h30, .ref h31, .int 0, .int 0, .ref h32, .ref h33, .ref h34, .int 0, .long 0, .long 0, .ref h35, .ref h36, .ref h37, .ref h38, .ref h39, .ref h40, .ref h41, .ref h42, .ref h43, .ref h44, .int 0, .int 0, .ref h45, .ref h46, .ref h47, .ref h48, .ref h49, .ref h50, .ref h51, .ref h52, .ref h53, .int 0, .int 0, .int 0, .int 0, .long 0, .ref h54, .ref h55, .ref h56, .int 0, .int 0, .long 0])), (h3, .inl (cy 0, 3, .inl (kc 0)))]) (hl : lv_has ls 8 [(0, .ref b), (1, .ref h0), (2, .ref h2), (3, .ref h4), (4, .int 0)]) : W p l e (zR 1000 600002 7302232) s m #[Value.ref b] below meth c H locs 476 284354 (lw_Z below #[Value.ref b] s) (F0 m 1266 ls []) := by
  obtain ⟨hl0, hx, hb, hr, hml, hown, hts, hX, hbl, hlk, hK, hE, q1, v1, q2, v2, hS⟩ := C
  have hA : ∀ q : Nat, s.heap.size ≤ q → (fun q => s.heap.size ≤ q) q := fun _ h => h
  have hbA : ¬ (fun q => s.heap.size ≤ q) b := Nat.not_le.mpr hbl
  refine lv_aload_n (pc := 1266) hx hb dL_law_1266 rfl (lv_at hl 1 rfl) ?_
  refine lv_aload_n (pc := 1267) hx hb dL_law_1267 rfl (lv_at hl 0 rfl) ?_
  refine lv_iload (pc := 1268) hx hb dL_law_1268 (lv_at hl 4 rfl) ?_
  refine lv_iconst (pc := 1270) (v := 1) hx hb dL_law_1270 (by decide) ?_
  refine z_iadd (pc := 1271) (v := 1) hx hb dL_law_1271 (by decide) ?_
  refine z_sld (pc := 1272) (v := (xs 1)) hx hb hX hbl hbA hT 1 rfl (by decide) rfl dL_law_1272 ?_
  refine lv_aload_n (pc := 1273) hx hb dL_law_1273 rfl (lv_at hl 3 rfl) ?_
  refine z_eHI (pc := 1274) zE_ok hE hx hb hml hown hts hK hA hT lkH_RL_150 ((k883_L_twins l G cy hl0 h0 h1 h4 h5 h6 h7 h8 h9 h10 h11 h12 h13 h14 (xs 1) hb1 hb2).e) [0, 1] [2, 3] rfl rfl rfl rfl rfl (by decide) rfl hl.1 rfl (Nat.le_of_ble_eq_true rfl) dL_law_1274 ⟨Nat.le_of_ble_eq_true rfl, Nat.le_of_ble_eq_true rfl⟩ (fun _ => [(h2, .inr (12, [.int 0, .ref h3, .int 0, .int 0, .int 0, .int (-1), .int 0, .int 0, .ref h15, .ref h16, .ref h17, .ref h18, .int 0, .ref h19, .ref h20, .int 0, .ref h21, .ref h22, .ref h23, .ref h24, .ref h25, .int 0, .ref h26, .ref h27, .ref h28, .int 0, .ref h29, .ref h30, .ref h31, .int 0, .int 0, .ref h32, .ref h33, .ref h34, .int 0, .long 0, .long 0, .ref h35, .ref h36, .ref h37, .ref h38, .ref h39, .ref h40, .ref h41, .ref h42, .ref h43, .ref h44, .int 0, .int 0, .ref h45, .ref h46, .ref h47, .ref h48, .ref h49, .ref h50, .ref h51, .ref h52, .ref h53, .int 0, .int 0, .int 0, .int 0, .long 0, .ref h54, .ref h55, .ref h56, .int 0, .int 0, .long 0])), (h3, .inl (cy 0, 3, .inl (kc 0)))]) (fun _ => rfl) (fun qs1 H locs hT => ?_)
  refine lv_istore (pc := 1277) (lv' := [(5, .int 1), (0, .ref b), (1, .ref h0), (2, .ref h2), (3, .ref h4), (4, .int 0)]) hx hb dL_law_1277 hl (by decide) rfl (fun ls hl => ?_)
  refine lv_aload_n (pc := 1279) hx hb dL_law_1279 rfl (lv_at hl 3 rfl) ?_
  refine lv_aload_n (pc := 1280) hx hb dL_law_1280 rfl (lv_at hl 1 rfl) ?_
  refine lv_iload (pc := 1281) hx hb dL_law_1281 (lv_at hl 5 rfl) ?_
  refine lv_iconst (pc := 1283) (v := 1) hx hb dL_law_1283 (by decide) ?_
  refine z_iadd (pc := 1284) (v := 1) hx hb dL_law_1284 (by decide) ?_
  refine z_sld (pc := 1285) (v := (xs 1)) hx hb hX hbl hbA hT 1 rfl (by decide) rfl dL_law_1285 ?_
  refine z_cVI (pc := 1286) hx hb hml hown hts hK hA hT lkV_RL_152 (k737_X12_twins l G cy h2 h3 h15 h16 h17 h18 h19 h20 h21 h22 h23 h24 h25 h26 h27 h28 h29 h30 h31 h32 h33 h34 h35 h36 h37 h38 h39 h40 h41 h42 h43 h44 h45 h46 h47 h48 h49 h50 h51 h52 h53 h54 h55 h56 (xs 1) hb1 hb3) [0, 1] [] rfl rfl rfl rfl rfl 0 rfl rfl (by decide) rfl hl.1 rfl (Nat.le_of_ble_eq_true rfl) dL_law_1286 ⟨Nat.le_of_ble_eq_true rfl, Nat.le_of_ble_eq_true rfl⟩ (fun _ => [(h2, .inr (12, [.int 1, .ref h3, .int 0, .int 0, .int 0, .int (-1), .int 0, .int 0, .ref h15, .ref h16, .ref h17, .ref h18, .int 0, .ref h19, .ref h20, .int 0, .ref h21, .ref h22, .ref h23, .ref h24, .ref h25, .int 0, .ref h26, .ref h27, .ref h28, .int 0, .ref h29, .ref h30, .ref h31, .int 0, .int 0, .ref h32, .ref h33, .ref h34, .int 0, .long 0, .long 0, .ref h35, .ref h36, .ref h37, .ref h38, .ref h39, .ref h40, .ref h41, .ref h42, .ref h43, .ref h44, .int 0, .int 0, .ref h45, .ref h46, .ref h47, .ref h48, .ref h49, .ref h50, .ref h51, .ref h52, .ref h53, .int 0, .int 0, .int 0, .int 0, .long 0, .ref h54, .ref h55, .ref h56, .int 0, .int 0, .long 0]))]) (fun _ => rfl) (fun qs2 H locs hT => ?_)
  refine lv_istore (pc := 1289) (lv' := [(6, .int 0), (5, .int 1), (0, .ref b), (1, .ref h0), (2, .ref h2), (3, .ref h4), (4, .int 0)]) hx hb dL_law_1289 hl (by decide) rfl (fun ls hl => ?_)
  refine lv_aload_n (pc := 1291) hx hb dL_law_1291 rfl (lv_at hl 4 rfl) ?_
  refine z_cVI (pc := 1292) hx hb hml hown hts hK hA hT lkV_RL_96 (k1051_X12_thrown l G cy h2 h3 h15 h16 h17 h18 h19 h20 h21 h22 h23 h24 h25 h26 h27 h28 h29 h30 h31 h32 h33 h34 h35 h36 h37 h38 h39 h40 h41 h42 h43 h44 h45 h46 h47 h48 h49 h50 h51 h52 h53 h54 h55 h56) [0] [] rfl rfl rfl rfl rfl 0 rfl rfl (by decide) rfl hl.1 rfl (Nat.le_of_ble_eq_true rfl) dL_law_1292 ⟨Nat.le_of_ble_eq_true rfl, Nat.le_of_ble_eq_true rfl⟩ (fun _ => [(h2, .inr (12, [.int 1, .ref h3, .int 0, .int 0, .int 0, .int (-1), .int 0, .int 0, .ref h15, .ref h16, .ref h17, .ref h18, .int 0, .ref h19, .ref h20, .int 0, .ref h21, .ref h22, .ref h23, .ref h24, .ref h25, .int 0, .ref h26, .ref h27, .ref h28, .int 0, .ref h29, .ref h30, .ref h31, .int 0, .int 0, .ref h32, .ref h33, .ref h34, .int 0, .long 0, .long 0, .ref h35, .ref h36, .ref h37, .ref h38, .ref h39, .ref h40, .ref h41, .ref h42, .ref h43, .ref h44, .int 0, .int 0, .ref h45, .ref h46, .ref h47, .ref h48, .ref h49, .ref h50, .ref h51, .ref h52, .ref h53, .int 0, .int 0, .int 0, .int 0, .long 0, .ref h54, .ref h55, .ref h56, .int 0, .int 0, .long 0]))]) (fun _ => rfl) (fun qs3 H locs hT => ?_)
  refine lv_iload (pc := 1295) hx hb dL_law_1295 (lv_at hl 1 rfl) ?_
  refine zb_icmp_eq_t (pc := 1297) (tgt := 1302) hx hb dL_law_1297 (by decide) (by decide) ?_
  refine lv_iload (pc := 1302) hx hb dL_law_1302 (lv_at hl 1 rfl) ?_
  refine zb_if_ne_t (pc := 1304) (tgt := 1319) hx hb dL_law_1304 (by decide) (by decide) ?_
  refine lv_goto (pc := 1319) (tgt := 1719) hx hb dL_law_1319 (by decide) ?_
  exact q_end hx hb hr hlk hX hbl hT (lv_sub hl [2, 6] rfl) (Nat.le_of_ble_eq_true rfl) (Nat.le_of_ble_eq_true rfl)
set_option maxHeartbeats 4000000 in
set_option maxRecDepth 100000 in
theorem q_parting_0_neg {p : Program} {l : Launch} {e : Env} {s : State} {m : MethodId} {below : List Frame} {meth : Method} {c : Code} {H : Heap} {locs : List Loc} {ls : Array Slot} {G : va_G} {cy : Nat → ClassId} {b : Nat} {xs : Nat → Int32} (C : zC l G cy p s m meth c b 6 xs) (h0 h1 h2 h3 h4 h5 h6 h7 h8 h9 h10 h11 h12 h13 h14 h15 h16 h17 h18 h19 h20 h21 h22 h23 h24 h25 h26 h27 h28 h29 h30 h31 h32 h33 h34 h35 h36 h37 h38 h39 h40 h41 h42 h43 h44 h45 h46 h47 h48 h49 h50 h51 h52 h53 h54 h55 h56 : Nat) (hneg : ((xs 1) : Int32) < 0) (hT : zT G (fun q => s.heap.size ≤ q) s.heap H locs [(h0, .inr (11, [.ref h5, .ref h6, .ref h7, .ref h8, .ref h9, .ref h10, .ref h11, .ref h12, .ref h13, .ref h14, .ref h1, .int (-1), .int (-1), .int (-1), .int (-1)])), (h1, .inl (cy 0, 3, .inl (kc 0))), (h2, .inr (12, [.int 0, .ref h3, .int 0, .int 0, .int 0, .int (-1), .int 0, .int 0, .ref h15, .ref h16, .ref h17, .ref h18, .int 0, .ref h19, .ref h20, .int 0, .ref h21, .ref h22, .ref h23, .ref h24, .ref h25, .int 0, .ref h26, .ref h27, .ref h28, .int 0, .ref h29, .ref h30, .ref h31, .int 0, .int 0, .ref h32, .ref h33, .ref h34, .int 0, .long 0, .long 0, .ref h35, .ref h36, .ref h37, .ref h38, .ref h39, .ref h40, .ref h41, .ref h42, .ref h43, .ref h44, .int 0, .int 0, .ref h45, .ref h46, .ref h47, .ref h48, .ref h49, .ref h50, .ref h51, .ref h52, .ref h53, .int 0, .int 0, .int 0, .int 0, .long 0, .ref h54, .ref h55, .ref h56, .int 0, .int 0, .long 0])), (h3, .inl (cy 0, 3, .inl (kc 0)))]) (hl : lv_has ls 8 [(0, .ref b), (1, .ref h0), (2, .ref h2), (3, .ref h4), (4, .int 0)]) : W p l e (zR 1000 600002 7302232) s m #[Value.ref b] below meth c H locs 476 284354 (lw_Z below #[Value.ref b] s) (F0 m 1322 ls []) := by
  obtain ⟨hl0, hx, hb, hr, hml, hown, hts, hX, hbl, hlk, hK, hE, q1, v1, q2, v2, hS⟩ := C
  have hA : ∀ q : Nat, s.heap.size ≤ q → (fun q => s.heap.size ≤ q) q := fun _ h => h
  have hbA : ¬ (fun q => s.heap.size ≤ q) b := Nat.not_le.mpr hbl
  refine lv_aload_n (pc := 1322) hx hb dL_law_1322 rfl (lv_at hl 1 rfl) ?_
  refine lv_aload_n (pc := 1323) hx hb dL_law_1323 rfl (lv_at hl 0 rfl) ?_
  refine lv_iload (pc := 1324) hx hb dL_law_1324 (lv_at hl 4 rfl) ?_
  refine lv_iconst (pc := 1326) (v := 1) hx hb dL_law_1326 (by decide) ?_
  refine z_iadd (pc := 1327) (v := 1) hx hb dL_law_1327 (by decide) ?_
  refine z_sld (pc := 1328) (v := (xs 1)) hx hb hX hbl hbA hT 1 rfl (by decide) rfl dL_law_1328 ?_
  refine lv_aload_n (pc := 1329) hx hb dL_law_1329 rfl (lv_at hl 0 rfl) ?_
  refine lv_iload (pc := 1330) hx hb dL_law_1330 (lv_at hl 4 rfl) ?_
  refine lv_iconst (pc := 1332) (v := 2) hx hb dL_law_1332 (by decide) ?_
  refine z_iadd (pc := 1333) (v := 2) hx hb dL_law_1333 (by decide) ?_
  refine z_sld (pc := 1334) (v := (xs 2)) hx hb hX hbl hbA hT 2 rfl (by decide) rfl dL_law_1334 ?_
  refine lv_aload_n (pc := 1335) hx hb dL_law_1335 rfl (lv_at hl 3 rfl) ?_
  refine z_eHI (pc := 1336) zE_ok hE hx hb hml hown hts hK hA hT lkH_RL_153 ((k884_L_parting l G cy hl0 h0 h1 h4 h5 h6 h7 h8 h9 h10 h11 h12 h13 h14 (xs 1) (xs 2) hneg).e) [0, 1] [2, 3] rfl rfl rfl rfl rfl (by decide) rfl hl.1 rfl (Nat.le_of_ble_eq_true rfl) dL_law_1336 ⟨Nat.le_of_ble_eq_true rfl, Nat.le_of_ble_eq_true rfl⟩ (fun _ => [(h2, .inr (12, [.int 0, .ref h3, .int 0, .int 0, .int 0, .int (-1), .int 0, .int 0, .ref h15, .ref h16, .ref h17, .ref h18, .int 0, .ref h19, .ref h20, .int 0, .ref h21, .ref h22, .ref h23, .ref h24, .ref h25, .int 0, .ref h26, .ref h27, .ref h28, .int 0, .ref h29, .ref h30, .ref h31, .int 0, .int 0, .ref h32, .ref h33, .ref h34, .int 0, .long 0, .long 0, .ref h35, .ref h36, .ref h37, .ref h38, .ref h39, .ref h40, .ref h41, .ref h42, .ref h43, .ref h44, .int 0, .int 0, .ref h45, .ref h46, .ref h47, .ref h48, .ref h49, .ref h50, .ref h51, .ref h52, .ref h53, .int 0, .int 0, .int 0, .int 0, .long 0, .ref h54, .ref h55, .ref h56, .int 0, .int 0, .long 0])), (h3, .inl (cy 0, 3, .inl (kc 0)))]) (fun _ => rfl) (fun qs1 H locs hT => ?_)
  refine lv_istore (pc := 1339) (lv' := [(5, .int 1), (0, .ref b), (1, .ref h0), (2, .ref h2), (3, .ref h4), (4, .int 0)]) hx hb dL_law_1339 hl (by decide) rfl (fun ls hl => ?_)
  refine lv_aload_n (pc := 1341) hx hb dL_law_1341 rfl (lv_at hl 3 rfl) ?_
  refine lv_aload_n (pc := 1342) hx hb dL_law_1342 rfl (lv_at hl 1 rfl) ?_
  refine lv_iload (pc := 1343) hx hb dL_law_1343 (lv_at hl 5 rfl) ?_
  refine lv_iconst (pc := 1345) (v := 1) hx hb dL_law_1345 (by decide) ?_
  refine z_iadd (pc := 1346) (v := 1) hx hb dL_law_1346 (by decide) ?_
  refine z_sld (pc := 1347) (v := (xs 1)) hx hb hX hbl hbA hT 1 rfl (by decide) rfl dL_law_1347 ?_
  refine lv_aload_n (pc := 1348) hx hb dL_law_1348 rfl (lv_at hl 1 rfl) ?_
  refine lv_iload (pc := 1349) hx hb dL_law_1349 (lv_at hl 5 rfl) ?_
  refine lv_iconst (pc := 1351) (v := 2) hx hb dL_law_1351 (by decide) ?_
  refine z_iadd (pc := 1352) (v := 2) hx hb dL_law_1352 (by decide) ?_
  refine z_sld (pc := 1353) (v := (xs 2)) hx hb hX hbl hbA hT 2 rfl (by decide) rfl dL_law_1353 ?_
  refine z_cVJ (pc := 1354) hx hb hml hown hts hK hA hT lkV_RL_155 (k738_X12_parting l G cy h2 h3 h15 h16 h17 h18 h19 h20 h21 h22 h23 h24 h25 h26 h27 h28 h29 h30 h31 h32 h33 h34 h35 h36 h37 h38 h39 h40 h41 h42 h43 h44 h45 h46 h47 h48 h49 h50 h51 h52 h53 h54 h55 h56 (xs 1) (xs 2) hneg) [0, 1] [] rfl rfl rfl rfl rfl 0 rfl rfl (by decide) rfl hl.1 rfl (Nat.le_of_ble_eq_true rfl) dL_law_1354 ⟨Nat.le_of_ble_eq_true rfl, Nat.le_of_ble_eq_true rfl⟩ (fun _ => [(h2, .inr (12, [.int 1, .ref h3, .int 0, .int 0, .int 0, .int (-1), .int 0, .int 0, .ref h15, .ref h16, .ref h17, .ref h18, .int 0, .ref h19, .ref h20, .int 0, .ref h21, .ref h22, .ref h23, .ref h24, .ref h25, .int 0, .ref h26, .ref h27, .ref h28, .int 0, .ref h29, .ref h30, .ref h31, .int 0, .int 0, .ref h32, .ref h33, .ref h34, .int 0, .long 0, .long 0, .ref h35, .ref h36, .ref h37, .ref h38, .ref h39, .ref h40, .ref h41, .ref h42, .ref h43, .ref h44, .int 0, .int 0, .ref h45, .ref h46, .ref h47, .ref h48, .ref h49, .ref h50, .ref h51, .ref h52, .ref h53, .int 0, .int 0, .int 0, .int 0, .long 0, .ref h54, .ref h55, .ref h56, .int 0, .int 0, .long 0]))]) (fun _ => rfl) (fun qs2 H locs hT => ?_)
  refine lv_lstore (pc := 1357) (lv' := [(6, .long 0), (5, .int 1), (0, .ref b), (1, .ref h0), (2, .ref h2), (3, .ref h4), (4, .int 0)]) hx hb dL_law_1357 hl (by decide) rfl (fun ls hl => ?_)
  refine lv_aload_n (pc := 1359) hx hb dL_law_1359 rfl (lv_at hl 4 rfl) ?_
  refine z_cVI (pc := 1360) hx hb hml hown hts hK hA hT lkV_RL_96 (k1051_X12_thrown l G cy h2 h3 h15 h16 h17 h18 h19 h20 h21 h22 h23 h24 h25 h26 h27 h28 h29 h30 h31 h32 h33 h34 h35 h36 h37 h38 h39 h40 h41 h42 h43 h44 h45 h46 h47 h48 h49 h50 h51 h52 h53 h54 h55 h56) [0] [] rfl rfl rfl rfl rfl 0 rfl rfl (by decide) rfl hl.1 rfl (Nat.le_of_ble_eq_true rfl) dL_law_1360 ⟨Nat.le_of_ble_eq_true rfl, Nat.le_of_ble_eq_true rfl⟩ (fun _ => [(h2, .inr (12, [.int 1, .ref h3, .int 0, .int 0, .int 0, .int (-1), .int 0, .int 0, .ref h15, .ref h16, .ref h17, .ref h18, .int 0, .ref h19, .ref h20, .int 0, .ref h21, .ref h22, .ref h23, .ref h24, .ref h25, .int 0, .ref h26, .ref h27, .ref h28, .int 0, .ref h29, .ref h30, .ref h31, .int 0, .int 0, .ref h32, .ref h33, .ref h34, .int 0, .long 0, .long 0, .ref h35, .ref h36, .ref h37, .ref h38, .ref h39, .ref h40, .ref h41, .ref h42, .ref h43, .ref h44, .int 0, .int 0, .ref h45, .ref h46, .ref h47, .ref h48, .ref h49, .ref h50, .ref h51, .ref h52, .ref h53, .int 0, .int 0, .int 0, .int 0, .long 0, .ref h54, .ref h55, .ref h56, .int 0, .int 0, .long 0]))]) (fun _ => rfl) (fun qs3 H locs hT => ?_)
  refine lv_iload (pc := 1363) hx hb dL_law_1363 (lv_at hl 1 rfl) ?_
  refine zb_icmp_eq_t (pc := 1365) (tgt := 1370) hx hb dL_law_1365 (by decide) (by decide) ?_
  refine lv_iload (pc := 1370) hx hb dL_law_1370 (lv_at hl 1 rfl) ?_
  refine zb_if_ne_t (pc := 1372) (tgt := 1386) hx hb dL_law_1372 (by decide) (by decide) ?_
  refine lv_goto (pc := 1386) (tgt := 1719) hx hb dL_law_1386 (by decide) ?_
  exact q_end hx hb hr hlk hX hbl hT (lv_sub hl [2, 6] rfl) (Nat.le_of_ble_eq_true rfl) (Nat.le_of_ble_eq_true rfl)
set_option maxHeartbeats 4000000 in
set_option maxRecDepth 100000 in
theorem q_parting_0_big {p : Program} {l : Launch} {e : Env} {s : State} {m : MethodId} {below : List Frame} {meth : Method} {c : Code} {H : Heap} {locs : List Loc} {ls : Array Slot} {G : va_G} {cy : Nat → ClassId} {b : Nat} {xs : Nat → Int32} (C : zC l G cy p s m meth c b 6 xs) (h0 h1 h2 h3 h4 h5 h6 h7 h8 h9 h10 h11 h12 h13 h14 h15 h16 h17 h18 h19 h20 h21 h22 h23 h24 h25 h26 h27 h28 h29 h30 h31 h32 h33 h34 h35 h36 h37 h38 h39 h40 h41 h42 h43 h44 h45 h46 h47 h48 h49 h50 h51 h52 h53 h54 h55 h56 : Nat) (hb1 : ¬ ((xs 1) : Int32) < 0) (hb2 : ¬ ((xs 1) : Int32) < 6) (hb3 : (5 : Int32) < (xs 1)) (hT : zT G (fun q => s.heap.size ≤ q) s.heap H locs [(h0, .inr (11, [.ref h5, .ref h6, .ref h7, .ref h8, .ref h9, .ref h10, .ref h11, .ref h12, .ref h13, .ref h14, .ref h1, .int (-1), .int (-1), .int (-1), .int (-1)])), (h1, .inl (cy 0, 3, .inl (kc 0))), (h2, .inr (12, [.int 0, .ref h3, .int 0, .int 0, .int 0, .int (-1), .int 0, .int 0, .ref h15, .ref h16, .ref h17, .ref h18, .int 0, .ref h19, .ref h20, .int 0, .ref h21, .ref h22, .ref h23, .ref h24, .ref h25, .int 0, .ref h26, .ref h27, .ref h28, .int 0, .ref h29, .ref h30, .ref h31, .int 0, .int 0, .ref h32, .ref h33, .ref h34, .int 0, .long 0, .long 0, .ref h35, .ref h36, .ref h37, .ref h38, .ref h39, .ref h40, .ref h41, .ref h42, .ref h43, .ref h44, .int 0, .int 0, .ref h45, .ref h46, .ref h47, .ref h48, .ref h49, .ref h50, .ref h51, .ref h52, .ref h53, .int 0, .int 0, .int 0, .int 0, .long 0, .ref h54, .ref h55, .ref h56, .int 0, .int 0, .long 0])), (h3, .inl (cy 0, 3, .inl (kc 0)))]) (hl : lv_has ls 8 [(0, .ref b), (1, .ref h0), (2, .ref h2), (3, .ref h4), (4, .int 0)]) : W p l e (zR 1000 600002 7302232) s m #[Value.ref b] below meth c H locs 476 284354 (lw_Z below #[Value.ref b] s) (F0 m 1322 ls []) := by
  obtain ⟨hl0, hx, hb, hr, hml, hown, hts, hX, hbl, hlk, hK, hE, q1, v1, q2, v2, hS⟩ := C
  have hA : ∀ q : Nat, s.heap.size ≤ q → (fun q => s.heap.size ≤ q) q := fun _ h => h
  have hbA : ¬ (fun q => s.heap.size ≤ q) b := Nat.not_le.mpr hbl
  refine lv_aload_n (pc := 1322) hx hb dL_law_1322 rfl (lv_at hl 1 rfl) ?_
  refine lv_aload_n (pc := 1323) hx hb dL_law_1323 rfl (lv_at hl 0 rfl) ?_
  refine lv_iload (pc := 1324) hx hb dL_law_1324 (lv_at hl 4 rfl) ?_
  refine lv_iconst (pc := 1326) (v := 1) hx hb dL_law_1326 (by decide) ?_
  refine z_iadd (pc := 1327) (v := 1) hx hb dL_law_1327 (by decide) ?_
  refine z_sld (pc := 1328) (v := (xs 1)) hx hb hX hbl hbA hT 1 rfl (by decide) rfl dL_law_1328 ?_
  refine lv_aload_n (pc := 1329) hx hb dL_law_1329 rfl (lv_at hl 0 rfl) ?_
  refine lv_iload (pc := 1330) hx hb dL_law_1330 (lv_at hl 4 rfl) ?_
  refine lv_iconst (pc := 1332) (v := 2) hx hb dL_law_1332 (by decide) ?_
  refine z_iadd (pc := 1333) (v := 2) hx hb dL_law_1333 (by decide) ?_
  refine z_sld (pc := 1334) (v := (xs 2)) hx hb hX hbl hbA hT 2 rfl (by decide) rfl dL_law_1334 ?_
  refine lv_aload_n (pc := 1335) hx hb dL_law_1335 rfl (lv_at hl 3 rfl) ?_
  refine z_eHI (pc := 1336) zE_ok hE hx hb hml hown hts hK hA hT lkH_RL_153 ((k885_L_parting l G cy hl0 h0 h1 h4 h5 h6 h7 h8 h9 h10 h11 h12 h13 h14 (xs 1) (xs 2) hb1 hb2).e) [0, 1] [2, 3] rfl rfl rfl rfl rfl (by decide) rfl hl.1 rfl (Nat.le_of_ble_eq_true rfl) dL_law_1336 ⟨Nat.le_of_ble_eq_true rfl, Nat.le_of_ble_eq_true rfl⟩ (fun _ => [(h2, .inr (12, [.int 0, .ref h3, .int 0, .int 0, .int 0, .int (-1), .int 0, .int 0, .ref h15, .ref h16, .ref h17, .ref h18, .int 0, .ref h19, .ref h20, .int 0, .ref h21, .ref h22, .ref h23, .ref h24, .ref h25, .int 0, .ref h26, .ref h27, .ref h28, .int 0, .ref h29, .ref h30, .ref h31, .int 0, .int 0, .ref h32, .ref h33, .ref h34, .int 0, .long 0, .long 0, .ref h35, .ref h36, .ref h37, .ref h38, .ref h39, .ref h40, .ref h41, .ref h42, .ref h43, .ref h44, .int 0, .int 0, .ref h45, .ref h46, .ref h47, .ref h48, .ref h49, .ref h50, .ref h51, .ref h52, .ref h53, .int 0, .int 0, .int 0, .int 0, .long 0, .ref h54, .ref h55, .ref h56, .int 0, .int 0, .long 0])), (h3, .inl (cy 0, 3, .inl (kc 0)))]) (fun _ => rfl) (fun qs1 H locs hT => ?_)
  refine lv_istore (pc := 1339) (lv' := [(5, .int 1), (0, .ref b), (1, .ref h0), (2, .ref h2), (3, .ref h4), (4, .int 0)]) hx hb dL_law_1339 hl (by decide) rfl (fun ls hl => ?_)
  refine lv_aload_n (pc := 1341) hx hb dL_law_1341 rfl (lv_at hl 3 rfl) ?_
  refine lv_aload_n (pc := 1342) hx hb dL_law_1342 rfl (lv_at hl 1 rfl) ?_
  refine lv_iload (pc := 1343) hx hb dL_law_1343 (lv_at hl 5 rfl) ?_
  refine lv_iconst (pc := 1345) (v := 1) hx hb dL_law_1345 (by decide) ?_
  refine z_iadd (pc := 1346) (v := 1) hx hb dL_law_1346 (by decide) ?_
  refine z_sld (pc := 1347) (v := (xs 1)) hx hb hX hbl hbA hT 1 rfl (by decide) rfl dL_law_1347 ?_
  refine lv_aload_n (pc := 1348) hx hb dL_law_1348 rfl (lv_at hl 1 rfl) ?_
  refine lv_iload (pc := 1349) hx hb dL_law_1349 (lv_at hl 5 rfl) ?_
  refine lv_iconst (pc := 1351) (v := 2) hx hb dL_law_1351 (by decide) ?_
  refine z_iadd (pc := 1352) (v := 2) hx hb dL_law_1352 (by decide) ?_
  refine z_sld (pc := 1353) (v := (xs 2)) hx hb hX hbl hbA hT 2 rfl (by decide) rfl dL_law_1353 ?_
  refine z_cVJ (pc := 1354) hx hb hml hown hts hK hA hT lkV_RL_155 (k739_X12_parting l G cy h2 h3 h15 h16 h17 h18 h19 h20 h21 h22 h23 h24 h25 h26 h27 h28 h29 h30 h31 h32 h33 h34 h35 h36 h37 h38 h39 h40 h41 h42 h43 h44 h45 h46 h47 h48 h49 h50 h51 h52 h53 h54 h55 h56 (xs 1) (xs 2) hb1 hb3) [0, 1] [] rfl rfl rfl rfl rfl 0 rfl rfl (by decide) rfl hl.1 rfl (Nat.le_of_ble_eq_true rfl) dL_law_1354 ⟨Nat.le_of_ble_eq_true rfl, Nat.le_of_ble_eq_true rfl⟩ (fun _ => [(h2, .inr (12, [.int 1, .ref h3, .int 0, .int 0, .int 0, .int (-1), .int 0, .int 0, .ref h15, .ref h16, .ref h17, .ref h18, .int 0, .ref h19, .ref h20, .int 0, .ref h21, .ref h22, .ref h23, .ref h24, .ref h25, .int 0, .ref h26, .ref h27, .ref h28, .int 0, .ref h29, .ref h30, .ref h31, .int 0, .int 0, .ref h32, .ref h33, .ref h34, .int 0, .long 0, .long 0, .ref h35, .ref h36, .ref h37, .ref h38, .ref h39, .ref h40, .ref h41, .ref h42, .ref h43, .ref h44, .int 0, .int 0, .ref h45, .ref h46, .ref h47, .ref h48, .ref h49, .ref h50, .ref h51, .ref h52, .ref h53, .int 0, .int 0, .int 0, .int 0, .long 0, .ref h54, .ref h55, .ref h56, .int 0, .int 0, .long 0]))]) (fun _ => rfl) (fun qs2 H locs hT => ?_)
  refine lv_lstore (pc := 1357) (lv' := [(6, .long 0), (5, .int 1), (0, .ref b), (1, .ref h0), (2, .ref h2), (3, .ref h4), (4, .int 0)]) hx hb dL_law_1357 hl (by decide) rfl (fun ls hl => ?_)
  refine lv_aload_n (pc := 1359) hx hb dL_law_1359 rfl (lv_at hl 4 rfl) ?_
  refine z_cVI (pc := 1360) hx hb hml hown hts hK hA hT lkV_RL_96 (k1051_X12_thrown l G cy h2 h3 h15 h16 h17 h18 h19 h20 h21 h22 h23 h24 h25 h26 h27 h28 h29 h30 h31 h32 h33 h34 h35 h36 h37 h38 h39 h40 h41 h42 h43 h44 h45 h46 h47 h48 h49 h50 h51 h52 h53 h54 h55 h56) [0] [] rfl rfl rfl rfl rfl 0 rfl rfl (by decide) rfl hl.1 rfl (Nat.le_of_ble_eq_true rfl) dL_law_1360 ⟨Nat.le_of_ble_eq_true rfl, Nat.le_of_ble_eq_true rfl⟩ (fun _ => [(h2, .inr (12, [.int 1, .ref h3, .int 0, .int 0, .int 0, .int (-1), .int 0, .int 0, .ref h15, .ref h16, .ref h17, .ref h18, .int 0, .ref h19, .ref h20, .int 0, .ref h21, .ref h22, .ref h23, .ref h24, .ref h25, .int 0, .ref h26, .ref h27, .ref h28, .int 0, .ref h29, .ref h30, .ref h31, .int 0, .int 0, .ref h32, .ref h33, .ref h34, .int 0, .long 0, .long 0, .ref h35, .ref h36, .ref h37, .ref h38, .ref h39, .ref h40, .ref h41, .ref h42, .ref h43, .ref h44, .int 0, .int 0, .ref h45, .ref h46, .ref h47, .ref h48, .ref h49, .ref h50, .ref h51, .ref h52, .ref h53, .int 0, .int 0, .int 0, .int 0, .long 0, .ref h54, .ref h55, .ref h56, .int 0, .int 0, .long 0]))]) (fun _ => rfl) (fun qs3 H locs hT => ?_)
  refine lv_iload (pc := 1363) hx hb dL_law_1363 (lv_at hl 1 rfl) ?_
  refine zb_icmp_eq_t (pc := 1365) (tgt := 1370) hx hb dL_law_1365 (by decide) (by decide) ?_
  refine lv_iload (pc := 1370) hx hb dL_law_1370 (lv_at hl 1 rfl) ?_
  refine zb_if_ne_t (pc := 1372) (tgt := 1386) hx hb dL_law_1372 (by decide) (by decide) ?_
  refine lv_goto (pc := 1386) (tgt := 1719) hx hb dL_law_1386 (by decide) ?_
  exact q_end hx hb hr hlk hX hbl hT (lv_sub hl [2, 6] rfl) (Nat.le_of_ble_eq_true rfl) (Nat.le_of_ble_eq_true rfl)
set_option maxHeartbeats 4000000 in
set_option maxRecDepth 100000 in
theorem q_parting_1_neg {p : Program} {l : Launch} {e : Env} {s : State} {m : MethodId} {below : List Frame} {meth : Method} {c : Code} {H : Heap} {locs : List Loc} {ls : Array Slot} {G : va_G} {cy : Nat → ClassId} {b : Nat} {xs : Nat → Int32} (C : zC l G cy p s m meth c b 6 xs) (h0 h1 h2 h3 h4 h5 h6 h7 h8 h9 h10 h11 h12 h13 h14 h15 h16 h17 h18 h19 h20 h21 h22 h23 h24 h25 h26 h27 h28 h29 h30 h31 h32 h33 h34 h35 h36 h37 h38 h39 h40 h41 h42 h43 h44 h45 h46 h47 h48 h49 h50 h51 h52 h53 h54 h55 h56 : Nat) (j : Nat) (hloj : 0 ≤ j) (hhij : j < 6) (hs1 : xs 1 = (nI j)) (hneg : ((xs 2) : Int32) < 0) (hT : zT G (fun q => s.heap.size ≤ q) s.heap H locs [(h0, .inr (11, [.ref h5, .ref h6, .ref h7, .ref h8, .ref h9, .ref h10, .ref h11, .ref h12, .ref h13, .ref h14, .ref h1, .int (-1), .int (-1), .int (-1), .int (-1)])), (h1, .inl (cy 0, 3, .inl (kc 0))), (h2, .inr (12, [.int 0, .ref h3, .int 0, .int 0, .int 0, .int (-1), .int 0, .int 0, .ref h15, .ref h16, .ref h17, .ref h18, .int 0, .ref h19, .ref h20, .int 0, .ref h21, .ref h22, .ref h23, .ref h24, .ref h25, .int 0, .ref h26, .ref h27, .ref h28, .int 0, .ref h29, .ref h30, .ref h31, .int 0, .int 0, .ref h32, .ref h33, .ref h34, .int 0, .long 0, .long 0, .ref h35, .ref h36, .ref h37, .ref h38, .ref h39, .ref h40, .ref h41, .ref h42, .ref h43, .ref h44, .int 0, .int 0, .ref h45, .ref h46, .ref h47, .ref h48, .ref h49, .ref h50, .ref h51, .ref h52, .ref h53, .int 0, .int 0, .int 0, .int 0, .long 0, .ref h54, .ref h55, .ref h56, .int 0, .int 0, .long 0])), (h3, .inl (cy 0, 3, .inl (kc 0)))]) (hl : lv_has ls 8 [(0, .ref b), (1, .ref h0), (2, .ref h2), (3, .ref h4), (4, .int 0)]) : W p l e (zR 1000 600002 7302232) s m #[Value.ref b] below meth c H locs 476 284354 (lw_Z below #[Value.ref b] s) (F0 m 1322 ls []) := by
  obtain ⟨hl0, hx, hb, hr, hml, hown, hts, hX, hbl, hlk, hK, hE, q1, v1, q2, v2, hS⟩ := C
  have hA : ∀ q : Nat, s.heap.size ≤ q → (fun q => s.heap.size ≤ q) q := fun _ h => h
  have hbA : ¬ (fun q => s.heap.size ≤ q) b := Nat.not_le.mpr hbl
  refine lv_aload_n (pc := 1322) hx hb dL_law_1322 rfl (lv_at hl 1 rfl) ?_
  refine lv_aload_n (pc := 1323) hx hb dL_law_1323 rfl (lv_at hl 0 rfl) ?_
  refine lv_iload (pc := 1324) hx hb dL_law_1324 (lv_at hl 4 rfl) ?_
  refine lv_iconst (pc := 1326) (v := 1) hx hb dL_law_1326 (by decide) ?_
  refine z_iadd (pc := 1327) (v := 1) hx hb dL_law_1327 (by decide) ?_
  refine z_sld (pc := 1328) (v := (nI j)) hx hb hX hbl hbA hT 1 rfl (by decide) hs1 dL_law_1328 ?_
  refine lv_aload_n (pc := 1329) hx hb dL_law_1329 rfl (lv_at hl 0 rfl) ?_
  refine lv_iload (pc := 1330) hx hb dL_law_1330 (lv_at hl 4 rfl) ?_
  refine lv_iconst (pc := 1332) (v := 2) hx hb dL_law_1332 (by decide) ?_
  refine z_iadd (pc := 1333) (v := 2) hx hb dL_law_1333 (by decide) ?_
  refine z_sld (pc := 1334) (v := (xs 2)) hx hb hX hbl hbA hT 2 rfl (by decide) rfl dL_law_1334 ?_
  refine lv_aload_n (pc := 1335) hx hb dL_law_1335 rfl (lv_at hl 3 rfl) ?_
  refine z_eHI (pc := 1336) zE_ok hE hx hb hml hown hts hK hA hT lkH_RL_153 ((k886_L_parting l G cy hl0 h0 h1 h4 h5 h6 h7 h8 h9 h10 h11 h12 h13 h14 (xs 2) j (by omega) (by omega) hneg).e) [0, 1] [2, 3] rfl rfl rfl rfl rfl (by decide) rfl hl.1 rfl (Nat.le_of_ble_eq_true rfl) dL_law_1336 ⟨Nat.le_of_ble_eq_true rfl, Nat.le_of_ble_eq_true rfl⟩ (fun _ => [(h2, .inr (12, [.int 0, .ref h3, .int 0, .int 0, .int 0, .int (-1), .int 0, .int 0, .ref h15, .ref h16, .ref h17, .ref h18, .int 0, .ref h19, .ref h20, .int 0, .ref h21, .ref h22, .ref h23, .ref h24, .ref h25, .int 0, .ref h26, .ref h27, .ref h28, .int 0, .ref h29, .ref h30, .ref h31, .int 0, .int 0, .ref h32, .ref h33, .ref h34, .int 0, .long 0, .long 0, .ref h35, .ref h36, .ref h37, .ref h38, .ref h39, .ref h40, .ref h41, .ref h42, .ref h43, .ref h44, .int 0, .int 0, .ref h45, .ref h46, .ref h47, .ref h48, .ref h49, .ref h50, .ref h51, .ref h52, .ref h53, .int 0, .int 0, .int 0, .int 0, .long 0, .ref h54, .ref h55, .ref h56, .int 0, .int 0, .long 0])), (h3, .inl (cy 0, 3, .inl (kc 0)))]) (fun _ => rfl) (fun qs1 H locs hT => ?_)
  refine lv_istore (pc := 1339) (lv' := [(5, .int 2), (0, .ref b), (1, .ref h0), (2, .ref h2), (3, .ref h4), (4, .int 0)]) hx hb dL_law_1339 hl (by decide) rfl (fun ls hl => ?_)
  refine lv_aload_n (pc := 1341) hx hb dL_law_1341 rfl (lv_at hl 3 rfl) ?_
  refine lv_aload_n (pc := 1342) hx hb dL_law_1342 rfl (lv_at hl 1 rfl) ?_
  refine lv_iload (pc := 1343) hx hb dL_law_1343 (lv_at hl 5 rfl) ?_
  refine lv_iconst (pc := 1345) (v := 1) hx hb dL_law_1345 (by decide) ?_
  refine z_iadd (pc := 1346) (v := 1) hx hb dL_law_1346 (by decide) ?_
  refine z_sld (pc := 1347) (v := (nI j)) hx hb hX hbl hbA hT 1 rfl (by decide) hs1 dL_law_1347 ?_
  refine lv_aload_n (pc := 1348) hx hb dL_law_1348 rfl (lv_at hl 1 rfl) ?_
  refine lv_iload (pc := 1349) hx hb dL_law_1349 (lv_at hl 5 rfl) ?_
  refine lv_iconst (pc := 1351) (v := 2) hx hb dL_law_1351 (by decide) ?_
  refine z_iadd (pc := 1352) (v := 2) hx hb dL_law_1352 (by decide) ?_
  refine z_sld (pc := 1353) (v := (xs 2)) hx hb hX hbl hbA hT 2 rfl (by decide) rfl dL_law_1353 ?_
  refine z_cVJ (pc := 1354) hx hb hml hown hts hK hA hT lkV_RL_155 (k741_X12_parting l G cy h2 h3 h15 h16 h17 h18 h19 h20 h21 h22 h23 h24 h25 h26 h27 h28 h29 h30 h31 h32 h33 h34 h35 h36 h37 h38 h39 h40 h41 h42 h43 h44 h45 h46 h47 h48 h49 h50 h51 h52 h53 h54 h55 h56 (xs 2) j (by omega) (by omega) hneg) [0, 1] [] rfl rfl rfl rfl rfl 0 rfl rfl (by decide) rfl hl.1 rfl (Nat.le_of_ble_eq_true rfl) dL_law_1354 ⟨Nat.le_of_ble_eq_true rfl, Nat.le_of_ble_eq_true rfl⟩ (fun _ => [(h2, .inr (12, [.int 2, .ref h3, .int 0, .int 0, .int 0, .int (-1), .int 0, .int 0, .ref h15, .ref h16, .ref h17, .ref h18, .int 0, .ref h19, .ref h20, .int 0, .ref h21, .ref h22, .ref h23, .ref h24, .ref h25, .int 0, .ref h26, .ref h27, .ref h28, .int 0, .ref h29, .ref h30, .ref h31, .int 0, .int 0, .ref h32, .ref h33, .ref h34, .int 0, .long 0, .long 0, .ref h35, .ref h36, .ref h37, .ref h38, .ref h39, .ref h40, .ref h41, .ref h42, .ref h43, .ref h44, .int 0, .int 0, .ref h45, .ref h46, .ref h47, .ref h48, .ref h49, .ref h50, .ref h51, .ref h52, .ref h53, .int 0, .int 0, .int 0, .int 0, .long 0, .ref h54, .ref h55, .ref h56, .int 0, .int 0, .long 0]))]) (fun _ => rfl) (fun qs2 H locs hT => ?_)
  refine lv_lstore (pc := 1357) (lv' := [(6, .long 0), (5, .int 2), (0, .ref b), (1, .ref h0), (2, .ref h2), (3, .ref h4), (4, .int 0)]) hx hb dL_law_1357 hl (by decide) rfl (fun ls hl => ?_)
  refine lv_aload_n (pc := 1359) hx hb dL_law_1359 rfl (lv_at hl 4 rfl) ?_
  refine z_cVI (pc := 1360) hx hb hml hown hts hK hA hT lkV_RL_96 (k1052_X12_thrown l G cy h2 h3 h15 h16 h17 h18 h19 h20 h21 h22 h23 h24 h25 h26 h27 h28 h29 h30 h31 h32 h33 h34 h35 h36 h37 h38 h39 h40 h41 h42 h43 h44 h45 h46 h47 h48 h49 h50 h51 h52 h53 h54 h55 h56) [0] [] rfl rfl rfl rfl rfl 0 rfl rfl (by decide) rfl hl.1 rfl (Nat.le_of_ble_eq_true rfl) dL_law_1360 ⟨Nat.le_of_ble_eq_true rfl, Nat.le_of_ble_eq_true rfl⟩ (fun _ => [(h2, .inr (12, [.int 2, .ref h3, .int 0, .int 0, .int 0, .int (-1), .int 0, .int 0, .ref h15, .ref h16, .ref h17, .ref h18, .int 0, .ref h19, .ref h20, .int 0, .ref h21, .ref h22, .ref h23, .ref h24, .ref h25, .int 0, .ref h26, .ref h27, .ref h28, .int 0, .ref h29, .ref h30, .ref h31, .int 0, .int 0, .ref h32, .ref h33, .ref h34, .int 0, .long 0, .long 0, .ref h35, .ref h36, .ref h37, .ref h38, .ref h39, .ref h40, .ref h41, .ref h42, .ref h43, .ref h44, .int 0, .int 0, .ref h45, .ref h46, .ref h47, .ref h48, .ref h49, .ref h50, .ref h51, .ref h52, .ref h53, .int 0, .int 0, .int 0, .int 0, .long 0, .ref h54, .ref h55, .ref h56, .int 0, .int 0, .long 0]))]) (fun _ => rfl) (fun qs3 H locs hT => ?_)
  refine lv_iload (pc := 1363) hx hb dL_law_1363 (lv_at hl 1 rfl) ?_
  refine zb_icmp_eq_t (pc := 1365) (tgt := 1370) hx hb dL_law_1365 (by decide) (by decide) ?_
  refine lv_iload (pc := 1370) hx hb dL_law_1370 (lv_at hl 1 rfl) ?_
  refine zb_if_ne_t (pc := 1372) (tgt := 1386) hx hb dL_law_1372 (by decide) (by decide) ?_
  refine lv_goto (pc := 1386) (tgt := 1719) hx hb dL_law_1386 (by decide) ?_
  exact q_end hx hb hr hlk hX hbl hT (lv_sub hl [2, 6] rfl) (Nat.le_of_ble_eq_true rfl) (Nat.le_of_ble_eq_true rfl)
set_option maxHeartbeats 4000000 in
set_option maxRecDepth 100000 in
theorem q_parting_1_big {p : Program} {l : Launch} {e : Env} {s : State} {m : MethodId} {below : List Frame} {meth : Method} {c : Code} {H : Heap} {locs : List Loc} {ls : Array Slot} {G : va_G} {cy : Nat → ClassId} {b : Nat} {xs : Nat → Int32} (C : zC l G cy p s m meth c b 6 xs) (h0 h1 h2 h3 h4 h5 h6 h7 h8 h9 h10 h11 h12 h13 h14 h15 h16 h17 h18 h19 h20 h21 h22 h23 h24 h25 h26 h27 h28 h29 h30 h31 h32 h33 h34 h35 h36 h37 h38 h39 h40 h41 h42 h43 h44 h45 h46 h47 h48 h49 h50 h51 h52 h53 h54 h55 h56 : Nat) (j : Nat) (hloj : 0 ≤ j) (hhij : j < 6) (hs1 : xs 1 = (nI j)) (hb1 : ¬ ((xs 2) : Int32) < 0) (hb2 : (4 : Int32) < (xs 2)) (hT : zT G (fun q => s.heap.size ≤ q) s.heap H locs [(h0, .inr (11, [.ref h5, .ref h6, .ref h7, .ref h8, .ref h9, .ref h10, .ref h11, .ref h12, .ref h13, .ref h14, .ref h1, .int (-1), .int (-1), .int (-1), .int (-1)])), (h1, .inl (cy 0, 3, .inl (kc 0))), (h2, .inr (12, [.int 0, .ref h3, .int 0, .int 0, .int 0, .int (-1), .int 0, .int 0, .ref h15, .ref h16, .ref h17, .ref h18, .int 0, .ref h19, .ref h20, .int 0, .ref h21, .ref h22, .ref h23, .ref h24, .ref h25, .int 0, .ref h26, .ref h27, .ref h28, .int 0, .ref h29, .ref h30, .ref h31, .int 0, .int 0, .ref h32, .ref h33, .ref h34, .int 0, .long 0, .long 0, .ref h35, .ref h36, .ref h37, .ref h38, .ref h39, .ref h40, .ref h41, .ref h42, .ref h43, .ref h44, .int 0, .int 0, .ref h45, .ref h46, .ref h47, .ref h48, .ref h49, .ref h50, .ref h51, .ref h52, .ref h53, .int 0, .int 0, .int 0, .int 0, .long 0, .ref h54, .ref h55, .ref h56, .int 0, .int 0, .long 0])), (h3, .inl (cy 0, 3, .inl (kc 0)))]) (hl : lv_has ls 8 [(0, .ref b), (1, .ref h0), (2, .ref h2), (3, .ref h4), (4, .int 0)]) : W p l e (zR 1000 600002 7302232) s m #[Value.ref b] below meth c H locs 476 284354 (lw_Z below #[Value.ref b] s) (F0 m 1322 ls []) := by
  obtain ⟨hl0, hx, hb, hr, hml, hown, hts, hX, hbl, hlk, hK, hE, q1, v1, q2, v2, hS⟩ := C
  have hA : ∀ q : Nat, s.heap.size ≤ q → (fun q => s.heap.size ≤ q) q := fun _ h => h
  have hbA : ¬ (fun q => s.heap.size ≤ q) b := Nat.not_le.mpr hbl
  refine lv_aload_n (pc := 1322) hx hb dL_law_1322 rfl (lv_at hl 1 rfl) ?_
  refine lv_aload_n (pc := 1323) hx hb dL_law_1323 rfl (lv_at hl 0 rfl) ?_
  refine lv_iload (pc := 1324) hx hb dL_law_1324 (lv_at hl 4 rfl) ?_
  refine lv_iconst (pc := 1326) (v := 1) hx hb dL_law_1326 (by decide) ?_
  refine z_iadd (pc := 1327) (v := 1) hx hb dL_law_1327 (by decide) ?_
  refine z_sld (pc := 1328) (v := (nI j)) hx hb hX hbl hbA hT 1 rfl (by decide) hs1 dL_law_1328 ?_
  refine lv_aload_n (pc := 1329) hx hb dL_law_1329 rfl (lv_at hl 0 rfl) ?_
  refine lv_iload (pc := 1330) hx hb dL_law_1330 (lv_at hl 4 rfl) ?_
  refine lv_iconst (pc := 1332) (v := 2) hx hb dL_law_1332 (by decide) ?_
  refine z_iadd (pc := 1333) (v := 2) hx hb dL_law_1333 (by decide) ?_
  refine z_sld (pc := 1334) (v := (xs 2)) hx hb hX hbl hbA hT 2 rfl (by decide) rfl dL_law_1334 ?_
  refine lv_aload_n (pc := 1335) hx hb dL_law_1335 rfl (lv_at hl 3 rfl) ?_
  refine z_eHI (pc := 1336) zE_ok hE hx hb hml hown hts hK hA hT lkH_RL_153 ((k887_L_parting l G cy hl0 h0 h1 h4 h5 h6 h7 h8 h9 h10 h11 h12 h13 h14 (xs 2) j (by omega) (by omega) hb1 hb2).e) [0, 1] [2, 3] rfl rfl rfl rfl rfl (by decide) rfl hl.1 rfl (Nat.le_of_ble_eq_true rfl) dL_law_1336 ⟨Nat.le_of_ble_eq_true rfl, Nat.le_of_ble_eq_true rfl⟩ (fun _ => [(h2, .inr (12, [.int 0, .ref h3, .int 0, .int 0, .int 0, .int (-1), .int 0, .int 0, .ref h15, .ref h16, .ref h17, .ref h18, .int 0, .ref h19, .ref h20, .int 0, .ref h21, .ref h22, .ref h23, .ref h24, .ref h25, .int 0, .ref h26, .ref h27, .ref h28, .int 0, .ref h29, .ref h30, .ref h31, .int 0, .int 0, .ref h32, .ref h33, .ref h34, .int 0, .long 0, .long 0, .ref h35, .ref h36, .ref h37, .ref h38, .ref h39, .ref h40, .ref h41, .ref h42, .ref h43, .ref h44, .int 0, .int 0, .ref h45, .ref h46, .ref h47, .ref h48, .ref h49, .ref h50, .ref h51, .ref h52, .ref h53, .int 0, .int 0, .int 0, .int 0, .long 0, .ref h54, .ref h55, .ref h56, .int 0, .int 0, .long 0])), (h3, .inl (cy 0, 3, .inl (kc 0)))]) (fun _ => rfl) (fun qs1 H locs hT => ?_)
  refine lv_istore (pc := 1339) (lv' := [(5, .int 2), (0, .ref b), (1, .ref h0), (2, .ref h2), (3, .ref h4), (4, .int 0)]) hx hb dL_law_1339 hl (by decide) rfl (fun ls hl => ?_)
  refine lv_aload_n (pc := 1341) hx hb dL_law_1341 rfl (lv_at hl 3 rfl) ?_
  refine lv_aload_n (pc := 1342) hx hb dL_law_1342 rfl (lv_at hl 1 rfl) ?_
  refine lv_iload (pc := 1343) hx hb dL_law_1343 (lv_at hl 5 rfl) ?_
  refine lv_iconst (pc := 1345) (v := 1) hx hb dL_law_1345 (by decide) ?_
  refine z_iadd (pc := 1346) (v := 1) hx hb dL_law_1346 (by decide) ?_
  refine z_sld (pc := 1347) (v := (nI j)) hx hb hX hbl hbA hT 1 rfl (by decide) hs1 dL_law_1347 ?_
  refine lv_aload_n (pc := 1348) hx hb dL_law_1348 rfl (lv_at hl 1 rfl) ?_
  refine lv_iload (pc := 1349) hx hb dL_law_1349 (lv_at hl 5 rfl) ?_
  refine lv_iconst (pc := 1351) (v := 2) hx hb dL_law_1351 (by decide) ?_
  refine z_iadd (pc := 1352) (v := 2) hx hb dL_law_1352 (by decide) ?_
  refine z_sld (pc := 1353) (v := (xs 2)) hx hb hX hbl hbA hT 2 rfl (by decide) rfl dL_law_1353 ?_
  refine z_cVJ (pc := 1354) hx hb hml hown hts hK hA hT lkV_RL_155 (k743_X12_parting l G cy h2 h3 h15 h16 h17 h18 h19 h20 h21 h22 h23 h24 h25 h26 h27 h28 h29 h30 h31 h32 h33 h34 h35 h36 h37 h38 h39 h40 h41 h42 h43 h44 h45 h46 h47 h48 h49 h50 h51 h52 h53 h54 h55 h56 (xs 2) j (by omega) (by omega) hb1 hb2) [0, 1] [] rfl rfl rfl rfl rfl 0 rfl rfl (by decide) rfl hl.1 rfl (Nat.le_of_ble_eq_true rfl) dL_law_1354 ⟨Nat.le_of_ble_eq_true rfl, Nat.le_of_ble_eq_true rfl⟩ (fun _ => [(h2, .inr (12, [.int 2, .ref h3, .int 0, .int 0, .int 0, .int (-1), .int 0, .int 0, .ref h15, .ref h16, .ref h17, .ref h18, .int 0, .ref h19, .ref h20, .int 0, .ref h21, .ref h22, .ref h23, .ref h24, .ref h25, .int 0, .ref h26, .ref h27, .ref h28, .int 0, .ref h29, .ref h30, .ref h31, .int 0, .int 0, .ref h32, .ref h33, .ref h34, .int 0, .long 0, .long 0, .ref h35, .ref h36, .ref h37, .ref h38, .ref h39, .ref h40, .ref h41, .ref h42, .ref h43, .ref h44, .int 0, .int 0, .ref h45, .ref h46, .ref h47, .ref h48, .ref h49, .ref h50, .ref h51, .ref h52, .ref h53, .int 0, .int 0, .int 0, .int 0, .long 0, .ref h54, .ref h55, .ref h56, .int 0, .int 0, .long 0]))]) (fun _ => rfl) (fun qs2 H locs hT => ?_)
  refine lv_lstore (pc := 1357) (lv' := [(6, .long 0), (5, .int 2), (0, .ref b), (1, .ref h0), (2, .ref h2), (3, .ref h4), (4, .int 0)]) hx hb dL_law_1357 hl (by decide) rfl (fun ls hl => ?_)
  refine lv_aload_n (pc := 1359) hx hb dL_law_1359 rfl (lv_at hl 4 rfl) ?_
  refine z_cVI (pc := 1360) hx hb hml hown hts hK hA hT lkV_RL_96 (k1052_X12_thrown l G cy h2 h3 h15 h16 h17 h18 h19 h20 h21 h22 h23 h24 h25 h26 h27 h28 h29 h30 h31 h32 h33 h34 h35 h36 h37 h38 h39 h40 h41 h42 h43 h44 h45 h46 h47 h48 h49 h50 h51 h52 h53 h54 h55 h56) [0] [] rfl rfl rfl rfl rfl 0 rfl rfl (by decide) rfl hl.1 rfl (Nat.le_of_ble_eq_true rfl) dL_law_1360 ⟨Nat.le_of_ble_eq_true rfl, Nat.le_of_ble_eq_true rfl⟩ (fun _ => [(h2, .inr (12, [.int 2, .ref h3, .int 0, .int 0, .int 0, .int (-1), .int 0, .int 0, .ref h15, .ref h16, .ref h17, .ref h18, .int 0, .ref h19, .ref h20, .int 0, .ref h21, .ref h22, .ref h23, .ref h24, .ref h25, .int 0, .ref h26, .ref h27, .ref h28, .int 0, .ref h29, .ref h30, .ref h31, .int 0, .int 0, .ref h32, .ref h33, .ref h34, .int 0, .long 0, .long 0, .ref h35, .ref h36, .ref h37, .ref h38, .ref h39, .ref h40, .ref h41, .ref h42, .ref h43, .ref h44, .int 0, .int 0, .ref h45, .ref h46, .ref h47, .ref h48, .ref h49, .ref h50, .ref h51, .ref h52, .ref h53, .int 0, .int 0, .int 0, .int 0, .long 0, .ref h54, .ref h55, .ref h56, .int 0, .int 0, .long 0]))]) (fun _ => rfl) (fun qs3 H locs hT => ?_)
  refine lv_iload (pc := 1363) hx hb dL_law_1363 (lv_at hl 1 rfl) ?_
  refine zb_icmp_eq_t (pc := 1365) (tgt := 1370) hx hb dL_law_1365 (by decide) (by decide) ?_
  refine lv_iload (pc := 1370) hx hb dL_law_1370 (lv_at hl 1 rfl) ?_
  refine zb_if_ne_t (pc := 1372) (tgt := 1386) hx hb dL_law_1372 (by decide) (by decide) ?_
  refine lv_goto (pc := 1386) (tgt := 1719) hx hb dL_law_1386 (by decide) ?_
  exact q_end hx hb hr hlk hX hbl hT (lv_sub hl [2, 6] rfl) (Nat.le_of_ble_eq_true rfl) (Nat.le_of_ble_eq_true rfl)
set_option maxHeartbeats 4000000 in
set_option maxRecDepth 100000 in
theorem q_partingAt_0_neg {p : Program} {l : Launch} {e : Env} {s : State} {m : MethodId} {below : List Frame} {meth : Method} {c : Code} {H : Heap} {locs : List Loc} {ls : Array Slot} {G : va_G} {cy : Nat → ClassId} {b : Nat} {xs : Nat → Int32} (C : zC l G cy p s m meth c b 6 xs) (h0 h1 h2 h3 h4 h5 h6 h7 h8 h9 h10 h11 h12 h13 h14 h15 h16 h17 h18 h19 h20 h21 h22 h23 h24 h25 h26 h27 h28 h29 h30 h31 h32 h33 h34 h35 h36 h37 h38 h39 h40 h41 h42 h43 h44 h45 h46 h47 h48 h49 h50 h51 h52 h53 h54 h55 h56 : Nat) (hneg : ((xs 1) : Int32) < 0) (hT : zT G (fun q => s.heap.size ≤ q) s.heap H locs [(h0, .inr (11, [.ref h5, .ref h6, .ref h7, .ref h8, .ref h9, .ref h10, .ref h11, .ref h12, .ref h13, .ref h14, .ref h1, .int (-1), .int (-1), .int (-1), .int (-1)])), (h1, .inl (cy 0, 3, .inl (kc 0))), (h2, .inr (12, [.int 0, .ref h3, .int 0, .int 0, .int 0, .int (-1), .int 0, .int 0, .ref h15, .ref h16, .ref h17, .ref h18, .int 0, .ref h19, .ref h20, .int 0, .ref h21, .ref h22, .ref h23, .ref h24, .ref h25, .int 0, .ref h26, .ref h27, .ref h28, .int 0, .ref h29, .ref h30, .ref h31, .int 0, .int 0, .ref h32, .ref h33, .ref h34, .int 0, .long 0, .long 0, .ref h35, .ref h36, .ref h37, .ref h38, .ref h39, .ref h40, .ref h41, .ref h42, .ref h43, .ref h44, .int 0, .int 0, .ref h45, .ref h46, .ref h47, .ref h48, .ref h49, .ref h50, .ref h51, .ref h52, .ref h53, .int 0, .int 0, .int 0, .int 0, .long 0, .ref h54, .ref h55, .ref h56, .int 0, .int 0, .long 0])), (h3, .inl (cy 0, 3, .inl (kc 0)))]) (hl : lv_has ls 8 [(0, .ref b), (1, .ref h0), (2, .ref h2), (3, .ref h4), (4, .int 0)]) : W p l e (zR 1000 600002 7302232) s m #[Value.ref b] below meth c H locs 476 284354 (lw_Z below #[Value.ref b] s) (F0 m 1389 ls []) := by
  obtain ⟨hl0, hx, hb, hr, hml, hown, hts, hX, hbl, hlk, hK, hE, q1, v1, q2, v2, hS⟩ := C
  have hA : ∀ q : Nat, s.heap.size ≤ q → (fun q => s.heap.size ≤ q) q := fun _ h => h
  have hbA : ¬ (fun q => s.heap.size ≤ q) b := Nat.not_le.mpr hbl
  refine lv_aload_n (pc := 1389) hx hb dL_law_1389 rfl (lv_at hl 1 rfl) ?_
  refine lv_aload_n (pc := 1390) hx hb dL_law_1390 rfl (lv_at hl 0 rfl) ?_
  refine lv_iload (pc := 1391) hx hb dL_law_1391 (lv_at hl 4 rfl) ?_
  refine lv_iconst (pc := 1393) (v := 1) hx hb dL_law_1393 (by decide) ?_
  refine z_iadd (pc := 1394) (v := 1) hx hb dL_law_1394 (by decide) ?_
  refine z_sld (pc := 1395) (v := (xs 1)) hx hb hX hbl hbA hT 1 rfl (by decide) rfl dL_law_1395 ?_
  refine lv_aload_n (pc := 1396) hx hb dL_law_1396 rfl (lv_at hl 0 rfl) ?_
  refine lv_iload (pc := 1397) hx hb dL_law_1397 (lv_at hl 4 rfl) ?_
  refine lv_iconst (pc := 1399) (v := 2) hx hb dL_law_1399 (by decide) ?_
  refine z_iadd (pc := 1400) (v := 2) hx hb dL_law_1400 (by decide) ?_
  refine z_sld (pc := 1401) (v := (xs 2)) hx hb hX hbl hbA hT 2 rfl (by decide) rfl dL_law_1401 ?_
  refine lv_aload_n (pc := 1402) hx hb dL_law_1402 rfl (lv_at hl 0 rfl) ?_
  refine lv_iload (pc := 1403) hx hb dL_law_1403 (lv_at hl 4 rfl) ?_
  refine lv_iconst (pc := 1405) (v := 3) hx hb dL_law_1405 (by decide) ?_
  refine z_iadd (pc := 1406) (v := 3) hx hb dL_law_1406 (by decide) ?_
  refine z_sld (pc := 1407) (v := (xs 3)) hx hb hX hbl hbA hT 3 rfl (by decide) rfl dL_law_1407 ?_
  refine lv_aload_n (pc := 1408) hx hb dL_law_1408 rfl (lv_at hl 3 rfl) ?_
  refine z_eHI (pc := 1409) zE_ok hE hx hb hml hown hts hK hA hT lkH_RL_156 ((k888_L_partingAt l G cy hl0 h0 h1 h4 h5 h6 h7 h8 h9 h10 h11 h12 h13 h14 (xs 1) (xs 2) (xs 3) hneg).e) [0, 1] [2, 3] rfl rfl rfl rfl rfl (by decide) rfl hl.1 rfl (Nat.le_of_ble_eq_true rfl) dL_law_1409 ⟨Nat.le_of_ble_eq_true rfl, Nat.le_of_ble_eq_true rfl⟩ (fun _ => [(h2, .inr (12, [.int 0, .ref h3, .int 0, .int 0, .int 0, .int (-1), .int 0, .int 0, .ref h15, .ref h16, .ref h17, .ref h18, .int 0, .ref h19, .ref h20, .int 0, .ref h21, .ref h22, .ref h23, .ref h24, .ref h25, .int 0, .ref h26, .ref h27, .ref h28, .int 0, .ref h29, .ref h30, .ref h31, .int 0, .int 0, .ref h32, .ref h33, .ref h34, .int 0, .long 0, .long 0, .ref h35, .ref h36, .ref h37, .ref h38, .ref h39, .ref h40, .ref h41, .ref h42, .ref h43, .ref h44, .int 0, .int 0, .ref h45, .ref h46, .ref h47, .ref h48, .ref h49, .ref h50, .ref h51, .ref h52, .ref h53, .int 0, .int 0, .int 0, .int 0, .long 0, .ref h54, .ref h55, .ref h56, .int 0, .int 0, .long 0])), (h3, .inl (cy 0, 3, .inl (kc 0)))]) (fun _ => rfl) (fun qs1 H locs hT => ?_)
  refine lv_istore (pc := 1412) (lv' := [(5, .int 1), (0, .ref b), (1, .ref h0), (2, .ref h2), (3, .ref h4), (4, .int 0)]) hx hb dL_law_1412 hl (by decide) rfl (fun ls hl => ?_)
  refine lv_aload_n (pc := 1414) hx hb dL_law_1414 rfl (lv_at hl 3 rfl) ?_
  refine lv_aload_n (pc := 1415) hx hb dL_law_1415 rfl (lv_at hl 1 rfl) ?_
  refine lv_iload (pc := 1416) hx hb dL_law_1416 (lv_at hl 5 rfl) ?_
  refine lv_iconst (pc := 1418) (v := 1) hx hb dL_law_1418 (by decide) ?_
  refine z_iadd (pc := 1419) (v := 1) hx hb dL_law_1419 (by decide) ?_
  refine z_sld (pc := 1420) (v := (xs 1)) hx hb hX hbl hbA hT 1 rfl (by decide) rfl dL_law_1420 ?_
  refine lv_aload_n (pc := 1421) hx hb dL_law_1421 rfl (lv_at hl 1 rfl) ?_
  refine lv_iload (pc := 1422) hx hb dL_law_1422 (lv_at hl 5 rfl) ?_
  refine lv_iconst (pc := 1424) (v := 2) hx hb dL_law_1424 (by decide) ?_
  refine z_iadd (pc := 1425) (v := 2) hx hb dL_law_1425 (by decide) ?_
  refine z_sld (pc := 1426) (v := (xs 2)) hx hb hX hbl hbA hT 2 rfl (by decide) rfl dL_law_1426 ?_
  refine lv_aload_n (pc := 1427) hx hb dL_law_1427 rfl (lv_at hl 1 rfl) ?_
  refine lv_iload (pc := 1428) hx hb dL_law_1428 (lv_at hl 5 rfl) ?_
  refine lv_iconst (pc := 1430) (v := 3) hx hb dL_law_1430 (by decide) ?_
  refine z_iadd (pc := 1431) (v := 3) hx hb dL_law_1431 (by decide) ?_
  refine z_sld (pc := 1432) (v := (xs 3)) hx hb hX hbl hbA hT 3 rfl (by decide) rfl dL_law_1432 ?_
  refine z_cVI (pc := 1433) hx hb hml hown hts hK hA hT lkV_RL_158 (k744_X12_partingAt l G cy h2 h3 h15 h16 h17 h18 h19 h20 h21 h22 h23 h24 h25 h26 h27 h28 h29 h30 h31 h32 h33 h34 h35 h36 h37 h38 h39 h40 h41 h42 h43 h44 h45 h46 h47 h48 h49 h50 h51 h52 h53 h54 h55 h56 (xs 1) (xs 2) (xs 3) hneg) [0, 1] [] rfl rfl rfl rfl rfl 0 rfl rfl (by decide) rfl hl.1 rfl (Nat.le_of_ble_eq_true rfl) dL_law_1433 ⟨Nat.le_of_ble_eq_true rfl, Nat.le_of_ble_eq_true rfl⟩ (fun _ => [(h2, .inr (12, [.int 1, .ref h3, .int 0, .int 0, .int 0, .int (-1), .int 0, .int 0, .ref h15, .ref h16, .ref h17, .ref h18, .int 0, .ref h19, .ref h20, .int 0, .ref h21, .ref h22, .ref h23, .ref h24, .ref h25, .int 0, .ref h26, .ref h27, .ref h28, .int 0, .ref h29, .ref h30, .ref h31, .int 0, .int 0, .ref h32, .ref h33, .ref h34, .int 0, .long 0, .long 0, .ref h35, .ref h36, .ref h37, .ref h38, .ref h39, .ref h40, .ref h41, .ref h42, .ref h43, .ref h44, .int 0, .int 0, .ref h45, .ref h46, .ref h47, .ref h48, .ref h49, .ref h50, .ref h51, .ref h52, .ref h53, .int 0, .int 0, .int 0, .int 0, .long 0, .ref h54, .ref h55, .ref h56, .int 0, .int 0, .long 0]))]) (fun _ => rfl) (fun qs2 H locs hT => ?_)
  refine lv_istore (pc := 1436) (lv' := [(6, .int 0), (5, .int 1), (0, .ref b), (1, .ref h0), (2, .ref h2), (3, .ref h4), (4, .int 0)]) hx hb dL_law_1436 hl (by decide) rfl (fun ls hl => ?_)
  refine lv_aload_n (pc := 1438) hx hb dL_law_1438 rfl (lv_at hl 4 rfl) ?_
  refine z_cVI (pc := 1439) hx hb hml hown hts hK hA hT lkV_RL_96 (k1051_X12_thrown l G cy h2 h3 h15 h16 h17 h18 h19 h20 h21 h22 h23 h24 h25 h26 h27 h28 h29 h30 h31 h32 h33 h34 h35 h36 h37 h38 h39 h40 h41 h42 h43 h44 h45 h46 h47 h48 h49 h50 h51 h52 h53 h54 h55 h56) [0] [] rfl rfl rfl rfl rfl 0 rfl rfl (by decide) rfl hl.1 rfl (Nat.le_of_ble_eq_true rfl) dL_law_1439 ⟨Nat.le_of_ble_eq_true rfl, Nat.le_of_ble_eq_true rfl⟩ (fun _ => [(h2, .inr (12, [.int 1, .ref h3, .int 0, .int 0, .int 0, .int (-1), .int 0, .int 0, .ref h15, .ref h16, .ref h17, .ref h18, .int 0, .ref h19, .ref h20, .int 0, .ref h21, .ref h22, .ref h23, .ref h24, .ref h25, .int 0, .ref h26, .ref h27, .ref h28, .int 0, .ref h29, .ref h30, .ref h31, .int 0, .int 0, .ref h32, .ref h33, .ref h34, .int 0, .long 0, .long 0, .ref h35, .ref h36, .ref h37, .ref h38, .ref h39, .ref h40, .ref h41, .ref h42, .ref h43, .ref h44, .int 0, .int 0, .ref h45, .ref h46, .ref h47, .ref h48, .ref h49, .ref h50, .ref h51, .ref h52, .ref h53, .int 0, .int 0, .int 0, .int 0, .long 0, .ref h54, .ref h55, .ref h56, .int 0, .int 0, .long 0]))]) (fun _ => rfl) (fun qs3 H locs hT => ?_)
  refine lv_iload (pc := 1442) hx hb dL_law_1442 (lv_at hl 1 rfl) ?_
  refine zb_icmp_eq_t (pc := 1444) (tgt := 1449) hx hb dL_law_1444 (by decide) (by decide) ?_
  refine lv_iload (pc := 1449) hx hb dL_law_1449 (lv_at hl 1 rfl) ?_
  refine zb_if_ne_t (pc := 1451) (tgt := 1466) hx hb dL_law_1451 (by decide) (by decide) ?_
  refine lv_goto (pc := 1466) (tgt := 1719) hx hb dL_law_1466 (by decide) ?_
  exact q_end hx hb hr hlk hX hbl hT (lv_sub hl [2, 6] rfl) (Nat.le_of_ble_eq_true rfl) (Nat.le_of_ble_eq_true rfl)
set_option maxHeartbeats 4000000 in
set_option maxRecDepth 100000 in
theorem q_partingAt_0_big {p : Program} {l : Launch} {e : Env} {s : State} {m : MethodId} {below : List Frame} {meth : Method} {c : Code} {H : Heap} {locs : List Loc} {ls : Array Slot} {G : va_G} {cy : Nat → ClassId} {b : Nat} {xs : Nat → Int32} (C : zC l G cy p s m meth c b 6 xs) (h0 h1 h2 h3 h4 h5 h6 h7 h8 h9 h10 h11 h12 h13 h14 h15 h16 h17 h18 h19 h20 h21 h22 h23 h24 h25 h26 h27 h28 h29 h30 h31 h32 h33 h34 h35 h36 h37 h38 h39 h40 h41 h42 h43 h44 h45 h46 h47 h48 h49 h50 h51 h52 h53 h54 h55 h56 : Nat) (hb1 : ¬ ((xs 1) : Int32) < 0) (hb2 : ¬ ((xs 1) : Int32) < 6) (hb3 : (5 : Int32) < (xs 1)) (hT : zT G (fun q => s.heap.size ≤ q) s.heap H locs [(h0, .inr (11, [.ref h5, .ref h6, .ref h7, .ref h8, .ref h9, .ref h10, .ref h11, .ref h12, .ref h13, .ref h14, .ref h1, .int (-1), .int (-1), .int (-1), .int (-1)])), (h1, .inl (cy 0, 3, .inl (kc 0))), (h2, .inr (12, [.int 0, .ref h3, .int 0, .int 0, .int 0, .int (-1), .int 0, .int 0, .ref h15, .ref h16, .ref h17, .ref h18, .int 0, .ref h19, .ref h20, .int 0, .ref h21, .ref h22, .ref h23, .ref h24, .ref h25, .int 0, .ref h26, .ref h27, .ref h28, .int 0, .ref h29, .ref h30, .ref h31, .int 0, .int 0, .ref h32, .ref h33, .ref h34, .int 0, .long 0, .long 0, .ref h35, .ref h36, .ref h37, .ref h38, .ref h39, .ref h40, .ref h41, .ref h42, .ref h43, .ref h44, .int 0, .int 0, .ref h45, .ref h46, .ref h47, .ref h48, .ref h49, .ref h50, .ref h51, .ref h52, .ref h53, .int 0, .int 0, .int 0, .int 0, .long 0, .ref h54, .ref h55, .ref h56, .int 0, .int 0, .long 0])), (h3, .inl (cy 0, 3, .inl (kc 0)))]) (hl : lv_has ls 8 [(0, .ref b), (1, .ref h0), (2, .ref h2), (3, .ref h4), (4, .int 0)]) : W p l e (zR 1000 600002 7302232) s m #[Value.ref b] below meth c H locs 476 284354 (lw_Z below #[Value.ref b] s) (F0 m 1389 ls []) := by
  obtain ⟨hl0, hx, hb, hr, hml, hown, hts, hX, hbl, hlk, hK, hE, q1, v1, q2, v2, hS⟩ := C
  have hA : ∀ q : Nat, s.heap.size ≤ q → (fun q => s.heap.size ≤ q) q := fun _ h => h
  have hbA : ¬ (fun q => s.heap.size ≤ q) b := Nat.not_le.mpr hbl
  refine lv_aload_n (pc := 1389) hx hb dL_law_1389 rfl (lv_at hl 1 rfl) ?_
  refine lv_aload_n (pc := 1390) hx hb dL_law_1390 rfl (lv_at hl 0 rfl) ?_
  refine lv_iload (pc := 1391) hx hb dL_law_1391 (lv_at hl 4 rfl) ?_
  refine lv_iconst (pc := 1393) (v := 1) hx hb dL_law_1393 (by decide) ?_
  refine z_iadd (pc := 1394) (v := 1) hx hb dL_law_1394 (by decide) ?_
  refine z_sld (pc := 1395) (v := (xs 1)) hx hb hX hbl hbA hT 1 rfl (by decide) rfl dL_law_1395 ?_
  refine lv_aload_n (pc := 1396) hx hb dL_law_1396 rfl (lv_at hl 0 rfl) ?_
  refine lv_iload (pc := 1397) hx hb dL_law_1397 (lv_at hl 4 rfl) ?_
  refine lv_iconst (pc := 1399) (v := 2) hx hb dL_law_1399 (by decide) ?_
  refine z_iadd (pc := 1400) (v := 2) hx hb dL_law_1400 (by decide) ?_
  refine z_sld (pc := 1401) (v := (xs 2)) hx hb hX hbl hbA hT 2 rfl (by decide) rfl dL_law_1401 ?_
  refine lv_aload_n (pc := 1402) hx hb dL_law_1402 rfl (lv_at hl 0 rfl) ?_
  refine lv_iload (pc := 1403) hx hb dL_law_1403 (lv_at hl 4 rfl) ?_
  refine lv_iconst (pc := 1405) (v := 3) hx hb dL_law_1405 (by decide) ?_
  refine z_iadd (pc := 1406) (v := 3) hx hb dL_law_1406 (by decide) ?_
  refine z_sld (pc := 1407) (v := (xs 3)) hx hb hX hbl hbA hT 3 rfl (by decide) rfl dL_law_1407 ?_
  refine lv_aload_n (pc := 1408) hx hb dL_law_1408 rfl (lv_at hl 3 rfl) ?_
  refine z_eHI (pc := 1409) zE_ok hE hx hb hml hown hts hK hA hT lkH_RL_156 ((k889_L_partingAt l G cy hl0 h0 h1 h4 h5 h6 h7 h8 h9 h10 h11 h12 h13 h14 (xs 1) (xs 2) (xs 3) hb1 hb2).e) [0, 1] [2, 3] rfl rfl rfl rfl rfl (by decide) rfl hl.1 rfl (Nat.le_of_ble_eq_true rfl) dL_law_1409 ⟨Nat.le_of_ble_eq_true rfl, Nat.le_of_ble_eq_true rfl⟩ (fun _ => [(h2, .inr (12, [.int 0, .ref h3, .int 0, .int 0, .int 0, .int (-1), .int 0, .int 0, .ref h15, .ref h16, .ref h17, .ref h18, .int 0, .ref h19, .ref h20, .int 0, .ref h21, .ref h22, .ref h23, .ref h24, .ref h25, .int 0, .ref h26, .ref h27, .ref h28, .int 0, .ref h29, .ref h30, .ref h31, .int 0, .int 0, .ref h32, .ref h33, .ref h34, .int 0, .long 0, .long 0, .ref h35, .ref h36, .ref h37, .ref h38, .ref h39, .ref h40, .ref h41, .ref h42, .ref h43, .ref h44, .int 0, .int 0, .ref h45, .ref h46, .ref h47, .ref h48, .ref h49, .ref h50, .ref h51, .ref h52, .ref h53, .int 0, .int 0, .int 0, .int 0, .long 0, .ref h54, .ref h55, .ref h56, .int 0, .int 0, .long 0])), (h3, .inl (cy 0, 3, .inl (kc 0)))]) (fun _ => rfl) (fun qs1 H locs hT => ?_)
  refine lv_istore (pc := 1412) (lv' := [(5, .int 1), (0, .ref b), (1, .ref h0), (2, .ref h2), (3, .ref h4), (4, .int 0)]) hx hb dL_law_1412 hl (by decide) rfl (fun ls hl => ?_)
  refine lv_aload_n (pc := 1414) hx hb dL_law_1414 rfl (lv_at hl 3 rfl) ?_
  refine lv_aload_n (pc := 1415) hx hb dL_law_1415 rfl (lv_at hl 1 rfl) ?_
  refine lv_iload (pc := 1416) hx hb dL_law_1416 (lv_at hl 5 rfl) ?_
  refine lv_iconst (pc := 1418) (v := 1) hx hb dL_law_1418 (by decide) ?_
  refine z_iadd (pc := 1419) (v := 1) hx hb dL_law_1419 (by decide) ?_
  refine z_sld (pc := 1420) (v := (xs 1)) hx hb hX hbl hbA hT 1 rfl (by decide) rfl dL_law_1420 ?_
  refine lv_aload_n (pc := 1421) hx hb dL_law_1421 rfl (lv_at hl 1 rfl) ?_
  refine lv_iload (pc := 1422) hx hb dL_law_1422 (lv_at hl 5 rfl) ?_
  refine lv_iconst (pc := 1424) (v := 2) hx hb dL_law_1424 (by decide) ?_
  refine z_iadd (pc := 1425) (v := 2) hx hb dL_law_1425 (by decide) ?_
  refine z_sld (pc := 1426) (v := (xs 2)) hx hb hX hbl hbA hT 2 rfl (by decide) rfl dL_law_1426 ?_
  refine lv_aload_n (pc := 1427) hx hb dL_law_1427 rfl (lv_at hl 1 rfl) ?_
  refine lv_iload (pc := 1428) hx hb dL_law_1428 (lv_at hl 5 rfl) ?_
  refine lv_iconst (pc := 1430) (v := 3) hx hb dL_law_1430 (by decide) ?_
  refine z_iadd (pc := 1431) (v := 3) hx hb dL_law_1431 (by decide) ?_
  refine z_sld (pc := 1432) (v := (xs 3)) hx hb hX hbl hbA hT 3 rfl (by decide) rfl dL_law_1432 ?_
  refine z_cVI (pc := 1433) hx hb hml hown hts hK hA hT lkV_RL_158 (k745_X12_partingAt l G cy h2 h3 h15 h16 h17 h18 h19 h20 h21 h22 h23 h24 h25 h26 h27 h28 h29 h30 h31 h32 h33 h34 h35 h36 h37 h38 h39 h40 h41 h42 h43 h44 h45 h46 h47 h48 h49 h50 h51 h52 h53 h54 h55 h56 (xs 1) (xs 2) (xs 3) hb1 hb3) [0, 1] [] rfl rfl rfl rfl rfl 0 rfl rfl (by decide) rfl hl.1 rfl (Nat.le_of_ble_eq_true rfl) dL_law_1433 ⟨Nat.le_of_ble_eq_true rfl, Nat.le_of_ble_eq_true rfl⟩ (fun _ => [(h2, .inr (12, [.int 1, .ref h3, .int 0, .int 0, .int 0, .int (-1), .int 0, .int 0, .ref h15, .ref h16, .ref h17, .ref h18, .int 0, .ref h19, .ref h20, .int 0, .ref h21, .ref h22, .ref h23, .ref h24, .ref h25, .int 0, .ref h26, .ref h27, .ref h28, .int 0, .ref h29, .ref h30, .ref h31, .int 0, .int 0, .ref h32, .ref h33, .ref h34, .int 0, .long 0, .long 0, .ref h35, .ref h36, .ref h37, .ref h38, .ref h39, .ref h40, .ref h41, .ref h42, .ref h43, .ref h44, .int 0, .int 0, .ref h45, .ref h46, .ref h47, .ref h48, .ref h49, .ref h50, .ref h51, .ref h52, .ref h53, .int 0, .int 0, .int 0, .int 0, .long 0, .ref h54, .ref h55, .ref h56, .int 0, .int 0, .long 0]))]) (fun _ => rfl) (fun qs2 H locs hT => ?_)
  refine lv_istore (pc := 1436) (lv' := [(6, .int 0), (5, .int 1), (0, .ref b), (1, .ref h0), (2, .ref h2), (3, .ref h4), (4, .int 0)]) hx hb dL_law_1436 hl (by decide) rfl (fun ls hl => ?_)
  refine lv_aload_n (pc := 1438) hx hb dL_law_1438 rfl (lv_at hl 4 rfl) ?_
  refine z_cVI (pc := 1439) hx hb hml hown hts hK hA hT lkV_RL_96 (k1051_X12_thrown l G cy h2 h3 h15 h16 h17 h18 h19 h20 h21 h22 h23 h24 h25 h26 h27 h28 h29 h30 h31 h32 h33 h34 h35 h36 h37 h38 h39 h40 h41 h42 h43 h44 h45 h46 h47 h48 h49 h50 h51 h52 h53 h54 h55 h56) [0] [] rfl rfl rfl rfl rfl 0 rfl rfl (by decide) rfl hl.1 rfl (Nat.le_of_ble_eq_true rfl) dL_law_1439 ⟨Nat.le_of_ble_eq_true rfl, Nat.le_of_ble_eq_true rfl⟩ (fun _ => [(h2, .inr (12, [.int 1, .ref h3, .int 0, .int 0, .int 0, .int (-1), .int 0, .int 0, .ref h15, .ref h16, .ref h17, .ref h18, .int 0, .ref h19, .ref h20, .int 0, .ref h21, .ref h22, .ref h23, .ref h24, .ref h25, .int 0, .ref h26, .ref h27, .ref h28, .int 0, .ref h29, .ref h30, .ref h31, .int 0, .int 0, .ref h32, .ref h33, .ref h34, .int 0, .long 0, .long 0, .ref h35, .ref h36, .ref h37, .ref h38, .ref h39, .ref h40, .ref h41, .ref h42, .ref h43, .ref h44, .int 0, .int 0, .ref h45, .ref h46, .ref h47, .ref h48, .ref h49, .ref h50, .ref h51, .ref h52, .ref h53, .int 0, .int 0, .int 0, .int 0, .long 0, .ref h54, .ref h55, .ref h56, .int 0, .int 0, .long 0]))]) (fun _ => rfl) (fun qs3 H locs hT => ?_)
  refine lv_iload (pc := 1442) hx hb dL_law_1442 (lv_at hl 1 rfl) ?_
  refine zb_icmp_eq_t (pc := 1444) (tgt := 1449) hx hb dL_law_1444 (by decide) (by decide) ?_
  refine lv_iload (pc := 1449) hx hb dL_law_1449 (lv_at hl 1 rfl) ?_
  refine zb_if_ne_t (pc := 1451) (tgt := 1466) hx hb dL_law_1451 (by decide) (by decide) ?_
  refine lv_goto (pc := 1466) (tgt := 1719) hx hb dL_law_1466 (by decide) ?_
  exact q_end hx hb hr hlk hX hbl hT (lv_sub hl [2, 6] rfl) (Nat.le_of_ble_eq_true rfl) (Nat.le_of_ble_eq_true rfl)
set_option maxHeartbeats 4000000 in
set_option maxRecDepth 100000 in
theorem q_partingAt_1_neg {p : Program} {l : Launch} {e : Env} {s : State} {m : MethodId} {below : List Frame} {meth : Method} {c : Code} {H : Heap} {locs : List Loc} {ls : Array Slot} {G : va_G} {cy : Nat → ClassId} {b : Nat} {xs : Nat → Int32} (C : zC l G cy p s m meth c b 6 xs) (h0 h1 h2 h3 h4 h5 h6 h7 h8 h9 h10 h11 h12 h13 h14 h15 h16 h17 h18 h19 h20 h21 h22 h23 h24 h25 h26 h27 h28 h29 h30 h31 h32 h33 h34 h35 h36 h37 h38 h39 h40 h41 h42 h43 h44 h45 h46 h47 h48 h49 h50 h51 h52 h53 h54 h55 h56 : Nat) (j : Nat) (hloj : 0 ≤ j) (hhij : j < 6) (hs1 : xs 1 = (nI j)) (hneg : ((xs 2) : Int32) < 0) (hT : zT G (fun q => s.heap.size ≤ q) s.heap H locs [(h0, .inr (11, [.ref h5, .ref h6, .ref h7, .ref h8, .ref h9, .ref h10, .ref h11, .ref h12, .ref h13, .ref h14, .ref h1, .int (-1), .int (-1), .int (-1), .int (-1)])), (h1, .inl (cy 0, 3, .inl (kc 0))), (h2, .inr (12, [.int 0, .ref h3, .int 0, .int 0, .int 0, .int (-1), .int 0, .int 0, .ref h15, .ref h16, .ref h17, .ref h18, .int 0, .ref h19, .ref h20, .int 0, .ref h21, .ref h22, .ref h23, .ref h24, .ref h25, .int 0, .ref h26, .ref h27, .ref h28, .int 0, .ref h29, .ref h30, .ref h31, .int 0, .int 0, .ref h32, .ref h33, .ref h34, .int 0, .long 0, .long 0, .ref h35, .ref h36, .ref h37, .ref h38, .ref h39, .ref h40, .ref h41, .ref h42, .ref h43, .ref h44, .int 0, .int 0, .ref h45, .ref h46, .ref h47, .ref h48, .ref h49, .ref h50, .ref h51, .ref h52, .ref h53, .int 0, .int 0, .int 0, .int 0, .long 0, .ref h54, .ref h55, .ref h56, .int 0, .int 0, .long 0])), (h3, .inl (cy 0, 3, .inl (kc 0)))]) (hl : lv_has ls 8 [(0, .ref b), (1, .ref h0), (2, .ref h2), (3, .ref h4), (4, .int 0)]) : W p l e (zR 1000 600002 7302232) s m #[Value.ref b] below meth c H locs 476 284354 (lw_Z below #[Value.ref b] s) (F0 m 1389 ls []) := by
  obtain ⟨hl0, hx, hb, hr, hml, hown, hts, hX, hbl, hlk, hK, hE, q1, v1, q2, v2, hS⟩ := C
  have hA : ∀ q : Nat, s.heap.size ≤ q → (fun q => s.heap.size ≤ q) q := fun _ h => h
  have hbA : ¬ (fun q => s.heap.size ≤ q) b := Nat.not_le.mpr hbl
  refine lv_aload_n (pc := 1389) hx hb dL_law_1389 rfl (lv_at hl 1 rfl) ?_
  refine lv_aload_n (pc := 1390) hx hb dL_law_1390 rfl (lv_at hl 0 rfl) ?_
  refine lv_iload (pc := 1391) hx hb dL_law_1391 (lv_at hl 4 rfl) ?_
  refine lv_iconst (pc := 1393) (v := 1) hx hb dL_law_1393 (by decide) ?_
  refine z_iadd (pc := 1394) (v := 1) hx hb dL_law_1394 (by decide) ?_
  refine z_sld (pc := 1395) (v := (nI j)) hx hb hX hbl hbA hT 1 rfl (by decide) hs1 dL_law_1395 ?_
  refine lv_aload_n (pc := 1396) hx hb dL_law_1396 rfl (lv_at hl 0 rfl) ?_
  refine lv_iload (pc := 1397) hx hb dL_law_1397 (lv_at hl 4 rfl) ?_
  refine lv_iconst (pc := 1399) (v := 2) hx hb dL_law_1399 (by decide) ?_
  refine z_iadd (pc := 1400) (v := 2) hx hb dL_law_1400 (by decide) ?_
  refine z_sld (pc := 1401) (v := (xs 2)) hx hb hX hbl hbA hT 2 rfl (by decide) rfl dL_law_1401 ?_
  refine lv_aload_n (pc := 1402) hx hb dL_law_1402 rfl (lv_at hl 0 rfl) ?_
  refine lv_iload (pc := 1403) hx hb dL_law_1403 (lv_at hl 4 rfl) ?_
  refine lv_iconst (pc := 1405) (v := 3) hx hb dL_law_1405 (by decide) ?_
  refine z_iadd (pc := 1406) (v := 3) hx hb dL_law_1406 (by decide) ?_
  refine z_sld (pc := 1407) (v := (xs 3)) hx hb hX hbl hbA hT 3 rfl (by decide) rfl dL_law_1407 ?_
  refine lv_aload_n (pc := 1408) hx hb dL_law_1408 rfl (lv_at hl 3 rfl) ?_
  refine z_eHI (pc := 1409) zE_ok hE hx hb hml hown hts hK hA hT lkH_RL_156 ((k890_L_partingAt l G cy hl0 h0 h1 h4 h5 h6 h7 h8 h9 h10 h11 h12 h13 h14 (xs 2) (xs 3) j (by omega) (by omega) hneg).e) [0, 1] [2, 3] rfl rfl rfl rfl rfl (by decide) rfl hl.1 rfl (Nat.le_of_ble_eq_true rfl) dL_law_1409 ⟨Nat.le_of_ble_eq_true rfl, Nat.le_of_ble_eq_true rfl⟩ (fun _ => [(h2, .inr (12, [.int 0, .ref h3, .int 0, .int 0, .int 0, .int (-1), .int 0, .int 0, .ref h15, .ref h16, .ref h17, .ref h18, .int 0, .ref h19, .ref h20, .int 0, .ref h21, .ref h22, .ref h23, .ref h24, .ref h25, .int 0, .ref h26, .ref h27, .ref h28, .int 0, .ref h29, .ref h30, .ref h31, .int 0, .int 0, .ref h32, .ref h33, .ref h34, .int 0, .long 0, .long 0, .ref h35, .ref h36, .ref h37, .ref h38, .ref h39, .ref h40, .ref h41, .ref h42, .ref h43, .ref h44, .int 0, .int 0, .ref h45, .ref h46, .ref h47, .ref h48, .ref h49, .ref h50, .ref h51, .ref h52, .ref h53, .int 0, .int 0, .int 0, .int 0, .long 0, .ref h54, .ref h55, .ref h56, .int 0, .int 0, .long 0])), (h3, .inl (cy 0, 3, .inl (kc 0)))]) (fun _ => rfl) (fun qs1 H locs hT => ?_)
  refine lv_istore (pc := 1412) (lv' := [(5, .int 2), (0, .ref b), (1, .ref h0), (2, .ref h2), (3, .ref h4), (4, .int 0)]) hx hb dL_law_1412 hl (by decide) rfl (fun ls hl => ?_)
  refine lv_aload_n (pc := 1414) hx hb dL_law_1414 rfl (lv_at hl 3 rfl) ?_
  refine lv_aload_n (pc := 1415) hx hb dL_law_1415 rfl (lv_at hl 1 rfl) ?_
  refine lv_iload (pc := 1416) hx hb dL_law_1416 (lv_at hl 5 rfl) ?_
  refine lv_iconst (pc := 1418) (v := 1) hx hb dL_law_1418 (by decide) ?_
  refine z_iadd (pc := 1419) (v := 1) hx hb dL_law_1419 (by decide) ?_
  refine z_sld (pc := 1420) (v := (nI j)) hx hb hX hbl hbA hT 1 rfl (by decide) hs1 dL_law_1420 ?_
  refine lv_aload_n (pc := 1421) hx hb dL_law_1421 rfl (lv_at hl 1 rfl) ?_
  refine lv_iload (pc := 1422) hx hb dL_law_1422 (lv_at hl 5 rfl) ?_
  refine lv_iconst (pc := 1424) (v := 2) hx hb dL_law_1424 (by decide) ?_
  refine z_iadd (pc := 1425) (v := 2) hx hb dL_law_1425 (by decide) ?_
  refine z_sld (pc := 1426) (v := (xs 2)) hx hb hX hbl hbA hT 2 rfl (by decide) rfl dL_law_1426 ?_
  refine lv_aload_n (pc := 1427) hx hb dL_law_1427 rfl (lv_at hl 1 rfl) ?_
  refine lv_iload (pc := 1428) hx hb dL_law_1428 (lv_at hl 5 rfl) ?_
  refine lv_iconst (pc := 1430) (v := 3) hx hb dL_law_1430 (by decide) ?_
  refine z_iadd (pc := 1431) (v := 3) hx hb dL_law_1431 (by decide) ?_
  refine z_sld (pc := 1432) (v := (xs 3)) hx hb hX hbl hbA hT 3 rfl (by decide) rfl dL_law_1432 ?_
  refine z_cVI (pc := 1433) hx hb hml hown hts hK hA hT lkV_RL_158 (k746_X12_partingAt l G cy h2 h3 h15 h16 h17 h18 h19 h20 h21 h22 h23 h24 h25 h26 h27 h28 h29 h30 h31 h32 h33 h34 h35 h36 h37 h38 h39 h40 h41 h42 h43 h44 h45 h46 h47 h48 h49 h50 h51 h52 h53 h54 h55 h56 (xs 2) (xs 3) j (by omega) (by omega) hneg) [0, 1] [] rfl rfl rfl rfl rfl 0 rfl rfl (by decide) rfl hl.1 rfl (Nat.le_of_ble_eq_true rfl) dL_law_1433 ⟨Nat.le_of_ble_eq_true rfl, Nat.le_of_ble_eq_true rfl⟩ (fun _ => [(h2, .inr (12, [.int 2, .ref h3, .int 0, .int 0, .int 0, .int (-1), .int 0, .int 0, .ref h15, .ref h16, .ref h17, .ref h18, .int 0, .ref h19, .ref h20, .int 0, .ref h21, .ref h22, .ref h23, .ref h24, .ref h25, .int 0, .ref h26, .ref h27, .ref h28, .int 0, .ref h29, .ref h30, .ref h31, .int 0, .int 0, .ref h32, .ref h33, .ref h34, .int 0, .long 0, .long 0, .ref h35, .ref h36, .ref h37, .ref h38, .ref h39, .ref h40, .ref h41, .ref h42, .ref h43, .ref h44, .int 0, .int 0, .ref h45, .ref h46, .ref h47, .ref h48, .ref h49, .ref h50, .ref h51, .ref h52, .ref h53, .int 0, .int 0, .int 0, .int 0, .long 0, .ref h54, .ref h55, .ref h56, .int 0, .int 0, .long 0]))]) (fun _ => rfl) (fun qs2 H locs hT => ?_)
  refine lv_istore (pc := 1436) (lv' := [(6, .int 0), (5, .int 2), (0, .ref b), (1, .ref h0), (2, .ref h2), (3, .ref h4), (4, .int 0)]) hx hb dL_law_1436 hl (by decide) rfl (fun ls hl => ?_)
  refine lv_aload_n (pc := 1438) hx hb dL_law_1438 rfl (lv_at hl 4 rfl) ?_
  refine z_cVI (pc := 1439) hx hb hml hown hts hK hA hT lkV_RL_96 (k1052_X12_thrown l G cy h2 h3 h15 h16 h17 h18 h19 h20 h21 h22 h23 h24 h25 h26 h27 h28 h29 h30 h31 h32 h33 h34 h35 h36 h37 h38 h39 h40 h41 h42 h43 h44 h45 h46 h47 h48 h49 h50 h51 h52 h53 h54 h55 h56) [0] [] rfl rfl rfl rfl rfl 0 rfl rfl (by decide) rfl hl.1 rfl (Nat.le_of_ble_eq_true rfl) dL_law_1439 ⟨Nat.le_of_ble_eq_true rfl, Nat.le_of_ble_eq_true rfl⟩ (fun _ => [(h2, .inr (12, [.int 2, .ref h3, .int 0, .int 0, .int 0, .int (-1), .int 0, .int 0, .ref h15, .ref h16, .ref h17, .ref h18, .int 0, .ref h19, .ref h20, .int 0, .ref h21, .ref h22, .ref h23, .ref h24, .ref h25, .int 0, .ref h26, .ref h27, .ref h28, .int 0, .ref h29, .ref h30, .ref h31, .int 0, .int 0, .ref h32, .ref h33, .ref h34, .int 0, .long 0, .long 0, .ref h35, .ref h36, .ref h37, .ref h38, .ref h39, .ref h40, .ref h41, .ref h42, .ref h43, .ref h44, .int 0, .int 0, .ref h45, .ref h46, .ref h47, .ref h48, .ref h49, .ref h50, .ref h51, .ref h52, .ref h53, .int 0, .int 0, .int 0, .int 0, .long 0, .ref h54, .ref h55, .ref h56, .int 0, .int 0, .long 0]))]) (fun _ => rfl) (fun qs3 H locs hT => ?_)
  refine lv_iload (pc := 1442) hx hb dL_law_1442 (lv_at hl 1 rfl) ?_
  refine zb_icmp_eq_t (pc := 1444) (tgt := 1449) hx hb dL_law_1444 (by decide) (by decide) ?_
  refine lv_iload (pc := 1449) hx hb dL_law_1449 (lv_at hl 1 rfl) ?_
  refine zb_if_ne_t (pc := 1451) (tgt := 1466) hx hb dL_law_1451 (by decide) (by decide) ?_
  refine lv_goto (pc := 1466) (tgt := 1719) hx hb dL_law_1466 (by decide) ?_
  exact q_end hx hb hr hlk hX hbl hT (lv_sub hl [2, 6] rfl) (Nat.le_of_ble_eq_true rfl) (Nat.le_of_ble_eq_true rfl)
set_option maxHeartbeats 4000000 in
set_option maxRecDepth 100000 in
theorem q_partingAt_1_big {p : Program} {l : Launch} {e : Env} {s : State} {m : MethodId} {below : List Frame} {meth : Method} {c : Code} {H : Heap} {locs : List Loc} {ls : Array Slot} {G : va_G} {cy : Nat → ClassId} {b : Nat} {xs : Nat → Int32} (C : zC l G cy p s m meth c b 6 xs) (h0 h1 h2 h3 h4 h5 h6 h7 h8 h9 h10 h11 h12 h13 h14 h15 h16 h17 h18 h19 h20 h21 h22 h23 h24 h25 h26 h27 h28 h29 h30 h31 h32 h33 h34 h35 h36 h37 h38 h39 h40 h41 h42 h43 h44 h45 h46 h47 h48 h49 h50 h51 h52 h53 h54 h55 h56 : Nat) (j : Nat) (hloj : 0 ≤ j) (hhij : j < 6) (hs1 : xs 1 = (nI j)) (hb1 : ¬ ((xs 2) : Int32) < 0) (hb2 : (1 : Int32) < (xs 2)) (hT : zT G (fun q => s.heap.size ≤ q) s.heap H locs [(h0, .inr (11, [.ref h5, .ref h6, .ref h7, .ref h8, .ref h9, .ref h10, .ref h11, .ref h12, .ref h13, .ref h14, .ref h1, .int (-1), .int (-1), .int (-1), .int (-1)])), (h1, .inl (cy 0, 3, .inl (kc 0))), (h2, .inr (12, [.int 0, .ref h3, .int 0, .int 0, .int 0, .int (-1), .int 0, .int 0, .ref h15, .ref h16, .ref h17, .ref h18, .int 0, .ref h19, .ref h20, .int 0, .ref h21, .ref h22, .ref h23, .ref h24, .ref h25, .int 0, .ref h26, .ref h27, .ref h28, .int 0, .ref h29, .ref h30, .ref h31, .int 0, .int 0, .ref h32, .ref h33, .ref h34, .int 0, .long 0, .long 0, .ref h35, .ref h36, .ref h37, .ref h38, .ref h39, .ref h40, .ref h41, .ref h42, .ref h43, .ref h44, .int 0, .int 0, .ref h45, .ref h46, .ref h47, .ref h48, .ref h49, .ref h50, .ref h51, .ref h52, .ref h53, .int 0, .int 0, .int 0, .int 0, .long 0, .ref h54, .ref h55, .ref h56, .int 0, .int 0, .long 0])), (h3, .inl (cy 0, 3, .inl (kc 0)))]) (hl : lv_has ls 8 [(0, .ref b), (1, .ref h0), (2, .ref h2), (3, .ref h4), (4, .int 0)]) : W p l e (zR 1000 600002 7302232) s m #[Value.ref b] below meth c H locs 476 284354 (lw_Z below #[Value.ref b] s) (F0 m 1389 ls []) := by
  obtain ⟨hl0, hx, hb, hr, hml, hown, hts, hX, hbl, hlk, hK, hE, q1, v1, q2, v2, hS⟩ := C
  have hA : ∀ q : Nat, s.heap.size ≤ q → (fun q => s.heap.size ≤ q) q := fun _ h => h
  have hbA : ¬ (fun q => s.heap.size ≤ q) b := Nat.not_le.mpr hbl
  refine lv_aload_n (pc := 1389) hx hb dL_law_1389 rfl (lv_at hl 1 rfl) ?_
  refine lv_aload_n (pc := 1390) hx hb dL_law_1390 rfl (lv_at hl 0 rfl) ?_
  refine lv_iload (pc := 1391) hx hb dL_law_1391 (lv_at hl 4 rfl) ?_
  refine lv_iconst (pc := 1393) (v := 1) hx hb dL_law_1393 (by decide) ?_
  refine z_iadd (pc := 1394) (v := 1) hx hb dL_law_1394 (by decide) ?_
  refine z_sld (pc := 1395) (v := (nI j)) hx hb hX hbl hbA hT 1 rfl (by decide) hs1 dL_law_1395 ?_
  refine lv_aload_n (pc := 1396) hx hb dL_law_1396 rfl (lv_at hl 0 rfl) ?_
  refine lv_iload (pc := 1397) hx hb dL_law_1397 (lv_at hl 4 rfl) ?_
  refine lv_iconst (pc := 1399) (v := 2) hx hb dL_law_1399 (by decide) ?_
  refine z_iadd (pc := 1400) (v := 2) hx hb dL_law_1400 (by decide) ?_
  refine z_sld (pc := 1401) (v := (xs 2)) hx hb hX hbl hbA hT 2 rfl (by decide) rfl dL_law_1401 ?_
  refine lv_aload_n (pc := 1402) hx hb dL_law_1402 rfl (lv_at hl 0 rfl) ?_
  refine lv_iload (pc := 1403) hx hb dL_law_1403 (lv_at hl 4 rfl) ?_
  refine lv_iconst (pc := 1405) (v := 3) hx hb dL_law_1405 (by decide) ?_
  refine z_iadd (pc := 1406) (v := 3) hx hb dL_law_1406 (by decide) ?_
  refine z_sld (pc := 1407) (v := (xs 3)) hx hb hX hbl hbA hT 3 rfl (by decide) rfl dL_law_1407 ?_
  refine lv_aload_n (pc := 1408) hx hb dL_law_1408 rfl (lv_at hl 3 rfl) ?_
  refine z_eHI (pc := 1409) zE_ok hE hx hb hml hown hts hK hA hT lkH_RL_156 ((k891_L_partingAt l G cy hl0 h0 h1 h4 h5 h6 h7 h8 h9 h10 h11 h12 h13 h14 (xs 2) (xs 3) j (by omega) (by omega) hb1 hb2).e) [0, 1] [2, 3] rfl rfl rfl rfl rfl (by decide) rfl hl.1 rfl (Nat.le_of_ble_eq_true rfl) dL_law_1409 ⟨Nat.le_of_ble_eq_true rfl, Nat.le_of_ble_eq_true rfl⟩ (fun _ => [(h2, .inr (12, [.int 0, .ref h3, .int 0, .int 0, .int 0, .int (-1), .int 0, .int 0, .ref h15, .ref h16, .ref h17, .ref h18, .int 0, .ref h19, .ref h20, .int 0, .ref h21, .ref h22, .ref h23, .ref h24, .ref h25, .int 0, .ref h26, .ref h27, .ref h28, .int 0, .ref h29, .ref h30, .ref h31, .int 0, .int 0, .ref h32, .ref h33, .ref h34, .int 0, .long 0, .long 0, .ref h35, .ref h36, .ref h37, .ref h38, .ref h39, .ref h40, .ref h41, .ref h42, .ref h43, .ref h44, .int 0, .int 0, .ref h45, .ref h46, .ref h47, .ref h48, .ref h49, .ref h50, .ref h51, .ref h52, .ref h53, .int 0, .int 0, .int 0, .int 0, .long 0, .ref h54, .ref h55, .ref h56, .int 0, .int 0, .long 0])), (h3, .inl (cy 0, 3, .inl (kc 0)))]) (fun _ => rfl) (fun qs1 H locs hT => ?_)
  refine lv_istore (pc := 1412) (lv' := [(5, .int 2), (0, .ref b), (1, .ref h0), (2, .ref h2), (3, .ref h4), (4, .int 0)]) hx hb dL_law_1412 hl (by decide) rfl (fun ls hl => ?_)
  refine lv_aload_n (pc := 1414) hx hb dL_law_1414 rfl (lv_at hl 3 rfl) ?_
  refine lv_aload_n (pc := 1415) hx hb dL_law_1415 rfl (lv_at hl 1 rfl) ?_
  refine lv_iload (pc := 1416) hx hb dL_law_1416 (lv_at hl 5 rfl) ?_
  refine lv_iconst (pc := 1418) (v := 1) hx hb dL_law_1418 (by decide) ?_
  refine z_iadd (pc := 1419) (v := 1) hx hb dL_law_1419 (by decide) ?_
  refine z_sld (pc := 1420) (v := (nI j)) hx hb hX hbl hbA hT 1 rfl (by decide) hs1 dL_law_1420 ?_
  refine lv_aload_n (pc := 1421) hx hb dL_law_1421 rfl (lv_at hl 1 rfl) ?_
  refine lv_iload (pc := 1422) hx hb dL_law_1422 (lv_at hl 5 rfl) ?_
  refine lv_iconst (pc := 1424) (v := 2) hx hb dL_law_1424 (by decide) ?_
  refine z_iadd (pc := 1425) (v := 2) hx hb dL_law_1425 (by decide) ?_
  refine z_sld (pc := 1426) (v := (xs 2)) hx hb hX hbl hbA hT 2 rfl (by decide) rfl dL_law_1426 ?_
  refine lv_aload_n (pc := 1427) hx hb dL_law_1427 rfl (lv_at hl 1 rfl) ?_
  refine lv_iload (pc := 1428) hx hb dL_law_1428 (lv_at hl 5 rfl) ?_
  refine lv_iconst (pc := 1430) (v := 3) hx hb dL_law_1430 (by decide) ?_
  refine z_iadd (pc := 1431) (v := 3) hx hb dL_law_1431 (by decide) ?_
  refine z_sld (pc := 1432) (v := (xs 3)) hx hb hX hbl hbA hT 3 rfl (by decide) rfl dL_law_1432 ?_
  refine z_cVI (pc := 1433) hx hb hml hown hts hK hA hT lkV_RL_158 (k747_X12_partingAt l G cy h2 h3 h15 h16 h17 h18 h19 h20 h21 h22 h23 h24 h25 h26 h27 h28 h29 h30 h31 h32 h33 h34 h35 h36 h37 h38 h39 h40 h41 h42 h43 h44 h45 h46 h47 h48 h49 h50 h51 h52 h53 h54 h55 h56 (xs 2) (xs 3) j (by omega) (by omega) hb1 hb2) [0, 1] [] rfl rfl rfl rfl rfl 0 rfl rfl (by decide) rfl hl.1 rfl (Nat.le_of_ble_eq_true rfl) dL_law_1433 ⟨Nat.le_of_ble_eq_true rfl, Nat.le_of_ble_eq_true rfl⟩ (fun _ => [(h2, .inr (12, [.int 2, .ref h3, .int 0, .int 0, .int 0, .int (-1), .int 0, .int 0, .ref h15, .ref h16, .ref h17, .ref h18, .int 0, .ref h19, .ref h20, .int 0, .ref h21, .ref h22, .ref h23, .ref h24, .ref h25, .int 0, .ref h26, .ref h27, .ref h28, .int 0, .ref h29, .ref h30, .ref h31, .int 0, .int 0, .ref h32, .ref h33, .ref h34, .int 0, .long 0, .long 0, .ref h35, .ref h36, .ref h37, .ref h38, .ref h39, .ref h40, .ref h41, .ref h42, .ref h43, .ref h44, .int 0, .int 0, .ref h45, .ref h46, .ref h47, .ref h48, .ref h49, .ref h50, .ref h51, .ref h52, .ref h53, .int 0, .int 0, .int 0, .int 0, .long 0, .ref h54, .ref h55, .ref h56, .int 0, .int 0, .long 0]))]) (fun _ => rfl) (fun qs2 H locs hT => ?_)
  refine lv_istore (pc := 1436) (lv' := [(6, .int 0), (5, .int 2), (0, .ref b), (1, .ref h0), (2, .ref h2), (3, .ref h4), (4, .int 0)]) hx hb dL_law_1436 hl (by decide) rfl (fun ls hl => ?_)
  refine lv_aload_n (pc := 1438) hx hb dL_law_1438 rfl (lv_at hl 4 rfl) ?_
  refine z_cVI (pc := 1439) hx hb hml hown hts hK hA hT lkV_RL_96 (k1052_X12_thrown l G cy h2 h3 h15 h16 h17 h18 h19 h20 h21 h22 h23 h24 h25 h26 h27 h28 h29 h30 h31 h32 h33 h34 h35 h36 h37 h38 h39 h40 h41 h42 h43 h44 h45 h46 h47 h48 h49 h50 h51 h52 h53 h54 h55 h56) [0] [] rfl rfl rfl rfl rfl 0 rfl rfl (by decide) rfl hl.1 rfl (Nat.le_of_ble_eq_true rfl) dL_law_1439 ⟨Nat.le_of_ble_eq_true rfl, Nat.le_of_ble_eq_true rfl⟩ (fun _ => [(h2, .inr (12, [.int 2, .ref h3, .int 0, .int 0, .int 0, .int (-1), .int 0, .int 0, .ref h15, .ref h16, .ref h17, .ref h18, .int 0, .ref h19, .ref h20, .int 0, .ref h21, .ref h22, .ref h23, .ref h24, .ref h25, .int 0, .ref h26, .ref h27, .ref h28, .int 0, .ref h29, .ref h30, .ref h31, .int 0, .int 0, .ref h32, .ref h33, .ref h34, .int 0, .long 0, .long 0, .ref h35, .ref h36, .ref h37, .ref h38, .ref h39, .ref h40, .ref h41, .ref h42, .ref h43, .ref h44, .int 0, .int 0, .ref h45, .ref h46, .ref h47, .ref h48, .ref h49, .ref h50, .ref h51, .ref h52, .ref h53, .int 0, .int 0, .int 0, .int 0, .long 0, .ref h54, .ref h55, .ref h56, .int 0, .int 0, .long 0]))]) (fun _ => rfl) (fun qs3 H locs hT => ?_)
  refine lv_iload (pc := 1442) hx hb dL_law_1442 (lv_at hl 1 rfl) ?_
  refine zb_icmp_eq_t (pc := 1444) (tgt := 1449) hx hb dL_law_1444 (by decide) (by decide) ?_
  refine lv_iload (pc := 1449) hx hb dL_law_1449 (lv_at hl 1 rfl) ?_
  refine zb_if_ne_t (pc := 1451) (tgt := 1466) hx hb dL_law_1451 (by decide) (by decide) ?_
  refine lv_goto (pc := 1466) (tgt := 1719) hx hb dL_law_1466 (by decide) ?_
  exact q_end hx hb hr hlk hX hbl hT (lv_sub hl [2, 6] rfl) (Nat.le_of_ble_eq_true rfl) (Nat.le_of_ble_eq_true rfl)
set_option maxHeartbeats 4000000 in
set_option maxRecDepth 100000 in
theorem q_ahead_0_neg {p : Program} {l : Launch} {e : Env} {s : State} {m : MethodId} {below : List Frame} {meth : Method} {c : Code} {H : Heap} {locs : List Loc} {ls : Array Slot} {G : va_G} {cy : Nat → ClassId} {b : Nat} {xs : Nat → Int32} (C : zC l G cy p s m meth c b 6 xs) (h0 h1 h2 h3 h4 h5 h6 h7 h8 h9 h10 h11 h12 h13 h14 h15 h16 h17 h18 h19 h20 h21 h22 h23 h24 h25 h26 h27 h28 h29 h30 h31 h32 h33 h34 h35 h36 h37 h38 h39 h40 h41 h42 h43 h44 h45 h46 h47 h48 h49 h50 h51 h52 h53 h54 h55 h56 : Nat) (hneg : ((xs 1) : Int32) < 0) (hT : zT G (fun q => s.heap.size ≤ q) s.heap H locs [(h0, .inr (11, [.ref h5, .ref h6, .ref h7, .ref h8, .ref h9, .ref h10, .ref h11, .ref h12, .ref h13, .ref h14, .ref h1, .int (-1), .int (-1), .int (-1), .int (-1)])), (h1, .inl (cy 0, 3, .inl (kc 0))), (h2, .inr (12, [.int 0, .ref h3, .int 0, .int 0, .int 0, .int (-1), .int 0, .int 0, .ref h15, .ref h16, .ref h17, .ref h18, .int 0, .ref h19, .ref h20, .int 0, .ref h21, .ref h22, .ref h23, .ref h24, .ref h25, .int 0, .ref h26, .ref h27, .ref h28, .int 0, .ref h29, .ref h30, .ref h31, .int 0, .int 0, .ref h32, .ref h33, .ref h34, .int 0, .long 0, .long 0, .ref h35, .ref h36, .ref h37, .ref h38, .ref h39, .ref h40, .ref h41, .ref h42, .ref h43, .ref h44, .int 0, .int 0, .ref h45, .ref h46, .ref h47, .ref h48, .ref h49, .ref h50, .ref h51, .ref h52, .ref h53, .int 0, .int 0, .int 0, .int 0, .long 0, .ref h54, .ref h55, .ref h56, .int 0, .int 0, .long 0])), (h3, .inl (cy 0, 3, .inl (kc 0)))]) (hl : lv_has ls 8 [(0, .ref b), (1, .ref h0), (2, .ref h2), (3, .ref h4), (4, .int 0)]) : W p l e (zR 1000 600002 7302232) s m #[Value.ref b] below meth c H locs 476 284354 (lw_Z below #[Value.ref b] s) (F0 m 1469 ls []) := by
  obtain ⟨hl0, hx, hb, hr, hml, hown, hts, hX, hbl, hlk, hK, hE, q1, v1, q2, v2, hS⟩ := C
  have hA : ∀ q : Nat, s.heap.size ≤ q → (fun q => s.heap.size ≤ q) q := fun _ h => h
  have hbA : ¬ (fun q => s.heap.size ≤ q) b := Nat.not_le.mpr hbl
  refine lv_aload_n (pc := 1469) hx hb dL_law_1469 rfl (lv_at hl 1 rfl) ?_
  refine lv_aload_n (pc := 1470) hx hb dL_law_1470 rfl (lv_at hl 0 rfl) ?_
  refine lv_iload (pc := 1471) hx hb dL_law_1471 (lv_at hl 4 rfl) ?_
  refine lv_iconst (pc := 1473) (v := 1) hx hb dL_law_1473 (by decide) ?_
  refine z_iadd (pc := 1474) (v := 1) hx hb dL_law_1474 (by decide) ?_
  refine z_sld (pc := 1475) (v := (xs 1)) hx hb hX hbl hbA hT 1 rfl (by decide) rfl dL_law_1475 ?_
  refine lv_aload_n (pc := 1476) hx hb dL_law_1476 rfl (lv_at hl 0 rfl) ?_
  refine lv_iload (pc := 1477) hx hb dL_law_1477 (lv_at hl 4 rfl) ?_
  refine lv_iconst (pc := 1479) (v := 2) hx hb dL_law_1479 (by decide) ?_
  refine z_iadd (pc := 1480) (v := 2) hx hb dL_law_1480 (by decide) ?_
  refine z_sld (pc := 1481) (v := (xs 2)) hx hb hX hbl hbA hT 2 rfl (by decide) rfl dL_law_1481 ?_
  refine lv_aload_n (pc := 1482) hx hb dL_law_1482 rfl (lv_at hl 3 rfl) ?_
  refine z_eHI (pc := 1483) zE_ok hE hx hb hml hown hts hK hA hT lkH_RL_159 ((k892_L_ahead l G cy hl0 h0 h1 h4 h5 h6 h7 h8 h9 h10 h11 h12 h13 h14 (xs 1) (xs 2) hneg).e) [0, 1] [2, 3] rfl rfl rfl rfl rfl (by decide) rfl hl.1 rfl (Nat.le_of_ble_eq_true rfl) dL_law_1483 ⟨Nat.le_of_ble_eq_true rfl, Nat.le_of_ble_eq_true rfl⟩ (fun _ => [(h2, .inr (12, [.int 0, .ref h3, .int 0, .int 0, .int 0, .int (-1), .int 0, .int 0, .ref h15, .ref h16, .ref h17, .ref h18, .int 0, .ref h19, .ref h20, .int 0, .ref h21, .ref h22, .ref h23, .ref h24, .ref h25, .int 0, .ref h26, .ref h27, .ref h28, .int 0, .ref h29, .ref h30, .ref h31, .int 0, .int 0, .ref h32, .ref h33, .ref h34, .int 0, .long 0, .long 0, .ref h35, .ref h36, .ref h37, .ref h38, .ref h39, .ref h40, .ref h41, .ref h42, .ref h43, .ref h44, .int 0, .int 0, .ref h45, .ref h46, .ref h47, .ref h48, .ref h49, .ref h50, .ref h51, .ref h52, .ref h53, .int 0, .int 0, .int 0, .int 0, .long 0, .ref h54, .ref h55, .ref h56, .int 0, .int 0, .long 0])), (h3, .inl (cy 0, 3, .inl (kc 0)))]) (fun _ => rfl) (fun qs1 H locs hT => ?_)
  refine lv_istore (pc := 1486) (lv' := [(5, .int 1), (0, .ref b), (1, .ref h0), (2, .ref h2), (3, .ref h4), (4, .int 0)]) hx hb dL_law_1486 hl (by decide) rfl (fun ls hl => ?_)
  refine lv_aload_n (pc := 1488) hx hb dL_law_1488 rfl (lv_at hl 3 rfl) ?_
  refine lv_aload_n (pc := 1489) hx hb dL_law_1489 rfl (lv_at hl 1 rfl) ?_
  refine lv_iload (pc := 1490) hx hb dL_law_1490 (lv_at hl 5 rfl) ?_
  refine lv_iconst (pc := 1492) (v := 1) hx hb dL_law_1492 (by decide) ?_
  refine z_iadd (pc := 1493) (v := 1) hx hb dL_law_1493 (by decide) ?_
  refine z_sld (pc := 1494) (v := (xs 1)) hx hb hX hbl hbA hT 1 rfl (by decide) rfl dL_law_1494 ?_
  refine lv_aload_n (pc := 1495) hx hb dL_law_1495 rfl (lv_at hl 1 rfl) ?_
  refine lv_iload (pc := 1496) hx hb dL_law_1496 (lv_at hl 5 rfl) ?_
  refine lv_iconst (pc := 1498) (v := 2) hx hb dL_law_1498 (by decide) ?_
  refine z_iadd (pc := 1499) (v := 2) hx hb dL_law_1499 (by decide) ?_
  refine z_sld (pc := 1500) (v := (xs 2)) hx hb hX hbl hbA hT 2 rfl (by decide) rfl dL_law_1500 ?_
  refine z_cVI (pc := 1501) hx hb hml hown hts hK hA hT lkV_RL_161 (k748_X12_ahead l G cy h2 h3 h15 h16 h17 h18 h19 h20 h21 h22 h23 h24 h25 h26 h27 h28 h29 h30 h31 h32 h33 h34 h35 h36 h37 h38 h39 h40 h41 h42 h43 h44 h45 h46 h47 h48 h49 h50 h51 h52 h53 h54 h55 h56 (xs 1) (xs 2) hneg) [0, 1] [] rfl rfl rfl rfl rfl 0 rfl rfl (by decide) rfl hl.1 rfl (Nat.le_of_ble_eq_true rfl) dL_law_1501 ⟨Nat.le_of_ble_eq_true rfl, Nat.le_of_ble_eq_true rfl⟩ (fun _ => [(h2, .inr (12, [.int 1, .ref h3, .int 0, .int 0, .int 0, .int (-1), .int 0, .int 0, .ref h15, .ref h16, .ref h17, .ref h18, .int 0, .ref h19, .ref h20, .int 0, .ref h21, .ref h22, .ref h23, .ref h24, .ref h25, .int 0, .ref h26, .ref h27, .ref h28, .int 0, .ref h29, .ref h30, .ref h31, .int 0, .int 0, .ref h32, .ref h33, .ref h34, .int 0, .long 0, .long 0, .ref h35, .ref h36, .ref h37, .ref h38, .ref h39, .ref h40, .ref h41, .ref h42, .ref h43, .ref h44, .int 0, .int 0, .ref h45, .ref h46, .ref h47, .ref h48, .ref h49, .ref h50, .ref h51, .ref h52, .ref h53, .int 0, .int 0, .int 0, .int 0, .long 0, .ref h54, .ref h55, .ref h56, .int 0, .int 0, .long 0]))]) (fun _ => rfl) (fun qs2 H locs hT => ?_)
  refine lv_istore (pc := 1504) (lv' := [(6, .int 0), (5, .int 1), (0, .ref b), (1, .ref h0), (2, .ref h2), (3, .ref h4), (4, .int 0)]) hx hb dL_law_1504 hl (by decide) rfl (fun ls hl => ?_)
  refine lv_aload_n (pc := 1506) hx hb dL_law_1506 rfl (lv_at hl 4 rfl) ?_
  refine z_cVI (pc := 1507) hx hb hml hown hts hK hA hT lkV_RL_96 (k1051_X12_thrown l G cy h2 h3 h15 h16 h17 h18 h19 h20 h21 h22 h23 h24 h25 h26 h27 h28 h29 h30 h31 h32 h33 h34 h35 h36 h37 h38 h39 h40 h41 h42 h43 h44 h45 h46 h47 h48 h49 h50 h51 h52 h53 h54 h55 h56) [0] [] rfl rfl rfl rfl rfl 0 rfl rfl (by decide) rfl hl.1 rfl (Nat.le_of_ble_eq_true rfl) dL_law_1507 ⟨Nat.le_of_ble_eq_true rfl, Nat.le_of_ble_eq_true rfl⟩ (fun _ => [(h2, .inr (12, [.int 1, .ref h3, .int 0, .int 0, .int 0, .int (-1), .int 0, .int 0, .ref h15, .ref h16, .ref h17, .ref h18, .int 0, .ref h19, .ref h20, .int 0, .ref h21, .ref h22, .ref h23, .ref h24, .ref h25, .int 0, .ref h26, .ref h27, .ref h28, .int 0, .ref h29, .ref h30, .ref h31, .int 0, .int 0, .ref h32, .ref h33, .ref h34, .int 0, .long 0, .long 0, .ref h35, .ref h36, .ref h37, .ref h38, .ref h39, .ref h40, .ref h41, .ref h42, .ref h43, .ref h44, .int 0, .int 0, .ref h45, .ref h46, .ref h47, .ref h48, .ref h49, .ref h50, .ref h51, .ref h52, .ref h53, .int 0, .int 0, .int 0, .int 0, .long 0, .ref h54, .ref h55, .ref h56, .int 0, .int 0, .long 0]))]) (fun _ => rfl) (fun qs3 H locs hT => ?_)
  refine lv_iload (pc := 1510) hx hb dL_law_1510 (lv_at hl 1 rfl) ?_
  refine zb_icmp_eq_t (pc := 1512) (tgt := 1517) hx hb dL_law_1512 (by decide) (by decide) ?_
  refine lv_iload (pc := 1517) hx hb dL_law_1517 (lv_at hl 1 rfl) ?_
  refine zb_if_ne_t (pc := 1519) (tgt := 1534) hx hb dL_law_1519 (by decide) (by decide) ?_
  refine lv_goto (pc := 1534) (tgt := 1719) hx hb dL_law_1534 (by decide) ?_
  exact q_end hx hb hr hlk hX hbl hT (lv_sub hl [2, 6] rfl) (Nat.le_of_ble_eq_true rfl) (Nat.le_of_ble_eq_true rfl)
set_option maxHeartbeats 4000000 in
set_option maxRecDepth 100000 in
theorem q_ahead_0_big {p : Program} {l : Launch} {e : Env} {s : State} {m : MethodId} {below : List Frame} {meth : Method} {c : Code} {H : Heap} {locs : List Loc} {ls : Array Slot} {G : va_G} {cy : Nat → ClassId} {b : Nat} {xs : Nat → Int32} (C : zC l G cy p s m meth c b 6 xs) (h0 h1 h2 h3 h4 h5 h6 h7 h8 h9 h10 h11 h12 h13 h14 h15 h16 h17 h18 h19 h20 h21 h22 h23 h24 h25 h26 h27 h28 h29 h30 h31 h32 h33 h34 h35 h36 h37 h38 h39 h40 h41 h42 h43 h44 h45 h46 h47 h48 h49 h50 h51 h52 h53 h54 h55 h56 : Nat) (hb1 : ¬ ((xs 1) : Int32) < 0) (hb2 : ¬ ((xs 1) : Int32) < 6) (hb3 : (5 : Int32) < (xs 1)) (hT : zT G (fun q => s.heap.size ≤ q) s.heap H locs [(h0, .inr (11, [.ref h5, .ref h6, .ref h7, .ref h8, .ref h9, .ref h10, .ref h11, .ref h12, .ref h13, .ref h14, .ref h1, .int (-1), .int (-1), .int (-1), .int (-1)])), (h1, .inl (cy 0, 3, .inl (kc 0))), (h2, .inr (12, [.int 0, .ref h3, .int 0, .int 0, .int 0, .int (-1), .int 0, .int 0, .ref h15, .ref h16, .ref h17, .ref h18, .int 0, .ref h19, .ref h20, .int 0, .ref h21, .ref h22, .ref h23, .ref h24, .ref h25, .int 0, .ref h26, .ref h27, .ref h28, .int 0, .ref h29, .ref h30, .ref h31, .int 0, .int 0, .ref h32, .ref h33, .ref h34, .int 0, .long 0, .long 0, .ref h35, .ref h36, .ref h37, .ref h38, .ref h39, .ref h40, .ref h41, .ref h42, .ref h43, .ref h44, .int 0, .int 0, .ref h45, .ref h46, .ref h47, .ref h48, .ref h49, .ref h50, .ref h51, .ref h52, .ref h53, .int 0, .int 0, .int 0, .int 0, .long 0, .ref h54, .ref h55, .ref h56, .int 0, .int 0, .long 0])), (h3, .inl (cy 0, 3, .inl (kc 0)))]) (hl : lv_has ls 8 [(0, .ref b), (1, .ref h0), (2, .ref h2), (3, .ref h4), (4, .int 0)]) : W p l e (zR 1000 600002 7302232) s m #[Value.ref b] below meth c H locs 476 284354 (lw_Z below #[Value.ref b] s) (F0 m 1469 ls []) := by
  obtain ⟨hl0, hx, hb, hr, hml, hown, hts, hX, hbl, hlk, hK, hE, q1, v1, q2, v2, hS⟩ := C
  have hA : ∀ q : Nat, s.heap.size ≤ q → (fun q => s.heap.size ≤ q) q := fun _ h => h
  have hbA : ¬ (fun q => s.heap.size ≤ q) b := Nat.not_le.mpr hbl
  refine lv_aload_n (pc := 1469) hx hb dL_law_1469 rfl (lv_at hl 1 rfl) ?_
  refine lv_aload_n (pc := 1470) hx hb dL_law_1470 rfl (lv_at hl 0 rfl) ?_
  refine lv_iload (pc := 1471) hx hb dL_law_1471 (lv_at hl 4 rfl) ?_
  refine lv_iconst (pc := 1473) (v := 1) hx hb dL_law_1473 (by decide) ?_
  refine z_iadd (pc := 1474) (v := 1) hx hb dL_law_1474 (by decide) ?_
  refine z_sld (pc := 1475) (v := (xs 1)) hx hb hX hbl hbA hT 1 rfl (by decide) rfl dL_law_1475 ?_
  refine lv_aload_n (pc := 1476) hx hb dL_law_1476 rfl (lv_at hl 0 rfl) ?_
  refine lv_iload (pc := 1477) hx hb dL_law_1477 (lv_at hl 4 rfl) ?_
  refine lv_iconst (pc := 1479) (v := 2) hx hb dL_law_1479 (by decide) ?_
  refine z_iadd (pc := 1480) (v := 2) hx hb dL_law_1480 (by decide) ?_
  refine z_sld (pc := 1481) (v := (xs 2)) hx hb hX hbl hbA hT 2 rfl (by decide) rfl dL_law_1481 ?_
  refine lv_aload_n (pc := 1482) hx hb dL_law_1482 rfl (lv_at hl 3 rfl) ?_
  refine z_eHI (pc := 1483) zE_ok hE hx hb hml hown hts hK hA hT lkH_RL_159 ((k893_L_ahead l G cy hl0 h0 h1 h4 h5 h6 h7 h8 h9 h10 h11 h12 h13 h14 (xs 1) (xs 2) hb1 hb2).e) [0, 1] [2, 3] rfl rfl rfl rfl rfl (by decide) rfl hl.1 rfl (Nat.le_of_ble_eq_true rfl) dL_law_1483 ⟨Nat.le_of_ble_eq_true rfl, Nat.le_of_ble_eq_true rfl⟩ (fun _ => [(h2, .inr (12, [.int 0, .ref h3, .int 0, .int 0, .int 0, .int (-1), .int 0, .int 0, .ref h15, .ref h16, .ref h17, .ref h18, .int 0, .ref h19, .ref h20, .int 0, .ref h21, .ref h22, .ref h23, .ref h24, .ref h25, .int 0, .ref h26, .ref h27, .ref h28, .int 0, .ref h29, .ref h30, .ref h31, .int 0, .int 0, .ref h32, .ref h33, .ref h34, .int 0, .long 0, .long 0, .ref h35, .ref h36, .ref h37, .ref h38, .ref h39, .ref h40, .ref h41, .ref h42, .ref h43, .ref h44, .int 0, .int 0, .ref h45, .ref h46, .ref h47, .ref h48, .ref h49, .ref h50, .ref h51, .ref h52, .ref h53, .int 0, .int 0, .int 0, .int 0, .long 0, .ref h54, .ref h55, .ref h56, .int 0, .int 0, .long 0])), (h3, .inl (cy 0, 3, .inl (kc 0)))]) (fun _ => rfl) (fun qs1 H locs hT => ?_)
  refine lv_istore (pc := 1486) (lv' := [(5, .int 1), (0, .ref b), (1, .ref h0), (2, .ref h2), (3, .ref h4), (4, .int 0)]) hx hb dL_law_1486 hl (by decide) rfl (fun ls hl => ?_)
  refine lv_aload_n (pc := 1488) hx hb dL_law_1488 rfl (lv_at hl 3 rfl) ?_
  refine lv_aload_n (pc := 1489) hx hb dL_law_1489 rfl (lv_at hl 1 rfl) ?_
  refine lv_iload (pc := 1490) hx hb dL_law_1490 (lv_at hl 5 rfl) ?_
  refine lv_iconst (pc := 1492) (v := 1) hx hb dL_law_1492 (by decide) ?_
  refine z_iadd (pc := 1493) (v := 1) hx hb dL_law_1493 (by decide) ?_
  refine z_sld (pc := 1494) (v := (xs 1)) hx hb hX hbl hbA hT 1 rfl (by decide) rfl dL_law_1494 ?_
  refine lv_aload_n (pc := 1495) hx hb dL_law_1495 rfl (lv_at hl 1 rfl) ?_
  refine lv_iload (pc := 1496) hx hb dL_law_1496 (lv_at hl 5 rfl) ?_
  refine lv_iconst (pc := 1498) (v := 2) hx hb dL_law_1498 (by decide) ?_
  refine z_iadd (pc := 1499) (v := 2) hx hb dL_law_1499 (by decide) ?_
  refine z_sld (pc := 1500) (v := (xs 2)) hx hb hX hbl hbA hT 2 rfl (by decide) rfl dL_law_1500 ?_
  refine z_cVI (pc := 1501) hx hb hml hown hts hK hA hT lkV_RL_161 (k749_X12_ahead l G cy h2 h3 h15 h16 h17 h18 h19 h20 h21 h22 h23 h24 h25 h26 h27 h28 h29 h30 h31 h32 h33 h34 h35 h36 h37 h38 h39 h40 h41 h42 h43 h44 h45 h46 h47 h48 h49 h50 h51 h52 h53 h54 h55 h56 (xs 1) (xs 2) hb1 hb3) [0, 1] [] rfl rfl rfl rfl rfl 0 rfl rfl (by decide) rfl hl.1 rfl (Nat.le_of_ble_eq_true rfl) dL_law_1501 ⟨Nat.le_of_ble_eq_true rfl, Nat.le_of_ble_eq_true rfl⟩ (fun _ => [(h2, .inr (12, [.int 1, .ref h3, .int 0, .int 0, .int 0, .int (-1), .int 0, .int 0, .ref h15, .ref h16, .ref h17, .ref h18, .int 0, .ref h19, .ref h20, .int 0, .ref h21, .ref h22, .ref h23, .ref h24, .ref h25, .int 0, .ref h26, .ref h27, .ref h28, .int 0, .ref h29, .ref h30, .ref h31, .int 0, .int 0, .ref h32, .ref h33, .ref h34, .int 0, .long 0, .long 0, .ref h35, .ref h36, .ref h37, .ref h38, .ref h39, .ref h40, .ref h41, .ref h42, .ref h43, .ref h44, .int 0, .int 0, .ref h45, .ref h46, .ref h47, .ref h48, .ref h49, .ref h50, .ref h51, .ref h52, .ref h53, .int 0, .int 0, .int 0, .int 0, .long 0, .ref h54, .ref h55, .ref h56, .int 0, .int 0, .long 0]))]) (fun _ => rfl) (fun qs2 H locs hT => ?_)
  refine lv_istore (pc := 1504) (lv' := [(6, .int 0), (5, .int 1), (0, .ref b), (1, .ref h0), (2, .ref h2), (3, .ref h4), (4, .int 0)]) hx hb dL_law_1504 hl (by decide) rfl (fun ls hl => ?_)
  refine lv_aload_n (pc := 1506) hx hb dL_law_1506 rfl (lv_at hl 4 rfl) ?_
  refine z_cVI (pc := 1507) hx hb hml hown hts hK hA hT lkV_RL_96 (k1051_X12_thrown l G cy h2 h3 h15 h16 h17 h18 h19 h20 h21 h22 h23 h24 h25 h26 h27 h28 h29 h30 h31 h32 h33 h34 h35 h36 h37 h38 h39 h40 h41 h42 h43 h44 h45 h46 h47 h48 h49 h50 h51 h52 h53 h54 h55 h56) [0] [] rfl rfl rfl rfl rfl 0 rfl rfl (by decide) rfl hl.1 rfl (Nat.le_of_ble_eq_true rfl) dL_law_1507 ⟨Nat.le_of_ble_eq_true rfl, Nat.le_of_ble_eq_true rfl⟩ (fun _ => [(h2, .inr (12, [.int 1, .ref h3, .int 0, .int 0, .int 0, .int (-1), .int 0, .int 0, .ref h15, .ref h16, .ref h17, .ref h18, .int 0, .ref h19, .ref h20, .int 0, .ref h21, .ref h22, .ref h23, .ref h24, .ref h25, .int 0, .ref h26, .ref h27, .ref h28, .int 0, .ref h29, .ref h30, .ref h31, .int 0, .int 0, .ref h32, .ref h33, .ref h34, .int 0, .long 0, .long 0, .ref h35, .ref h36, .ref h37, .ref h38, .ref h39, .ref h40, .ref h41, .ref h42, .ref h43, .ref h44, .int 0, .int 0, .ref h45, .ref h46, .ref h47, .ref h48, .ref h49, .ref h50, .ref h51, .ref h52, .ref h53, .int 0, .int 0, .int 0, .int 0, .long 0, .ref h54, .ref h55, .ref h56, .int 0, .int 0, .long 0]))]) (fun _ => rfl) (fun qs3 H locs hT => ?_)
  refine lv_iload (pc := 1510) hx hb dL_law_1510 (lv_at hl 1 rfl) ?_
  refine zb_icmp_eq_t (pc := 1512) (tgt := 1517) hx hb dL_law_1512 (by decide) (by decide) ?_
  refine lv_iload (pc := 1517) hx hb dL_law_1517 (lv_at hl 1 rfl) ?_
  refine zb_if_ne_t (pc := 1519) (tgt := 1534) hx hb dL_law_1519 (by decide) (by decide) ?_
  refine lv_goto (pc := 1534) (tgt := 1719) hx hb dL_law_1534 (by decide) ?_
  exact q_end hx hb hr hlk hX hbl hT (lv_sub hl [2, 6] rfl) (Nat.le_of_ble_eq_true rfl) (Nat.le_of_ble_eq_true rfl)
set_option maxHeartbeats 4000000 in
set_option maxRecDepth 100000 in
theorem q_ahead_1_neg {p : Program} {l : Launch} {e : Env} {s : State} {m : MethodId} {below : List Frame} {meth : Method} {c : Code} {H : Heap} {locs : List Loc} {ls : Array Slot} {G : va_G} {cy : Nat → ClassId} {b : Nat} {xs : Nat → Int32} (C : zC l G cy p s m meth c b 6 xs) (h0 h1 h2 h3 h4 h5 h6 h7 h8 h9 h10 h11 h12 h13 h14 h15 h16 h17 h18 h19 h20 h21 h22 h23 h24 h25 h26 h27 h28 h29 h30 h31 h32 h33 h34 h35 h36 h37 h38 h39 h40 h41 h42 h43 h44 h45 h46 h47 h48 h49 h50 h51 h52 h53 h54 h55 h56 h57 h58 h59 h60 h61 h62 h63 h64 h65 h66 : Nat) (gx : Nat → Nat) (gm : Nat → Nat) (j : Nat) (hloj : 0 ≤ j) (hhij : j < 6) (hs1 : xs 1 = (nI j)) (hneg : ((xs 2) : Int32) < 0) (hT : zT G (fun q => s.heap.size ≤ q) s.heap H locs [(h0, .inr (11, [.ref h1, .ref h7, .ref h8, .ref h9, .ref h10, .ref h11, .ref h12, .ref h13, .ref h14, .ref h15, .ref h2, .int (-1), .int (-1), .int (-1), .int (-1)])), (h1, .inl (cy 3, 6, .inr (.inr (.inr (.inr (fun i => some (gx i))))))), ((gx j), .inr (3, [.int 1, .int 0, .int 0, .int 0, .ref h16, .ref h17, .ref h18, .ref h19, .ref h20, .ref h21, .ref h22, .ref h23, .ref h24, .ref h25])), (h2, .inl (cy 0, 3, .inl (kc 0))), (h3, .inr (12, [.int 0, .ref h5, .int 0, .int 0, .int 0, .int (-1), .int 0, .int 0, .ref h26, .ref h4, .ref h27, .ref h28, .int 0, .ref h29, .ref h30, .int 0, .ref h31, .ref h32, .ref h33, .ref h34, .ref h35, .int 0, .ref h36, .ref h37, .ref h38, .int 0, .ref h39, .ref h40, .ref h41, .int 0, .int 0, .ref h42, .ref h43, .ref h44, .int 0, .long 0, .long 0, .ref h45, .ref h46, .ref h47, .ref h48, .ref h49, .ref h50, .ref h51, .ref h52, .ref h53, .ref h54, .int 0, .int 0, .ref h55, .ref h56, .ref h57, .ref h58, .ref h59, .ref h60, .ref h61, .ref h62, .ref h63, .int 0, .int 0, .int 0, .int 0, .long 0, .ref h64, .ref h65, .ref h66, .int 0, .int 0, .long 0])), (h4, .inl (cy 4, 6, .inr (.inr (.inr (.inr (fun i => some (gm i))))))), ((gm j), .inl (cy 0, 643, .inl (zfil (upd (kc 0) 0 1) 3 43 (-1)))), (h5, .inl (cy 0, 3, .inl (kc 0)))]) (hl : lv_has ls 8 [(0, .ref b), (1, .ref h0), (2, .ref h3), (3, .ref h6), (4, .int 0)]) : W p l e (zR 1000 600002 7302232) s m #[Value.ref b] below meth c H locs 476 284354 (lw_Z below #[Value.ref b] s) (F0 m 1469 ls []) := by
  obtain ⟨hl0, hx, hb, hr, hml, hown, hts, hX, hbl, hlk, hK, hE, q1, v1, q2, v2, hS⟩ := C
  have hA : ∀ q : Nat, s.heap.size ≤ q → (fun q => s.heap.size ≤ q) q := fun _ h => h
  have hbA : ¬ (fun q => s.heap.size ≤ q) b := Nat.not_le.mpr hbl
  refine lv_aload_n (pc := 1469) hx hb dL_law_1469 rfl (lv_at hl 1 rfl) ?_
  refine lv_aload_n (pc := 1470) hx hb dL_law_1470 rfl (lv_at hl 0 rfl) ?_
  refine lv_iload (pc := 1471) hx hb dL_law_1471 (lv_at hl 4 rfl) ?_
  refine lv_iconst (pc := 1473) (v := 1) hx hb dL_law_1473 (by decide) ?_
  refine z_iadd (pc := 1474) (v := 1) hx hb dL_law_1474 (by decide) ?_
  refine z_sld (pc := 1475) (v := (nI j)) hx hb hX hbl hbA hT 1 rfl (by decide) hs1 dL_law_1475 ?_
  refine lv_aload_n (pc := 1476) hx hb dL_law_1476 rfl (lv_at hl 0 rfl) ?_
  refine lv_iload (pc := 1477) hx hb dL_law_1477 (lv_at hl 4 rfl) ?_
  refine lv_iconst (pc := 1479) (v := 2) hx hb dL_law_1479 (by decide) ?_
  refine z_iadd (pc := 1480) (v := 2) hx hb dL_law_1480 (by decide) ?_
  refine z_sld (pc := 1481) (v := (xs 2)) hx hb hX hbl hbA hT 2 rfl (by decide) rfl dL_law_1481 ?_
  refine lv_aload_n (pc := 1482) hx hb dL_law_1482 rfl (lv_at hl 3 rfl) ?_
  refine z_eHI (pc := 1483) zE_ok hE hx hb hml hown hts hK hA hT lkH_RL_159 ((k894_L_ahead l G cy hl0 h0 h1 h2 h6 h7 h8 h9 h10 h11 h12 h13 h14 h15 h16 h17 h18 h19 h20 h21 h22 h23 h24 h25 (xs 2) j (gx) (by omega) (by omega) hneg).e) [0, 1, 2, 3] [4, 5, 6, 7] rfl rfl rfl rfl rfl (by decide) rfl hl.1 rfl (Nat.le_of_ble_eq_true rfl) dL_law_1483 ⟨Nat.le_of_ble_eq_true rfl, Nat.le_of_ble_eq_true rfl⟩ (fun _ => [(h3, .inr (12, [.int 0, .ref h5, .int 0, .int 0, .int 0, .int (-1), .int 0, .int 0, .ref h26, .ref h4, .ref h27, .ref h28, .int 0, .ref h29, .ref h30, .int 0, .ref h31, .ref h32, .ref h33, .ref h34, .ref h35, .int 0, .ref h36, .ref h37, .ref h38, .int 0, .ref h39, .ref h40, .ref h41, .int 0, .int 0, .ref h42, .ref h43, .ref h44, .int 0, .long 0, .long 0, .ref h45, .ref h46, .ref h47, .ref h48, .ref h49, .ref h50, .ref h51, .ref h52, .ref h53, .ref h54, .int 0, .int 0, .ref h55, .ref h56, .ref h57, .ref h58, .ref h59, .ref h60, .ref h61, .ref h62, .ref h63, .int 0, .int 0, .int 0, .int 0, .long 0, .ref h64, .ref h65, .ref h66, .int 0, .int 0, .long 0])), (h4, .inl (cy 4, 6, .inr (.inr (.inr (.inr (fun i => some (gm i))))))), ((gm j), .inl (cy 0, 643, .inl (zfil (upd (kc 0) 0 1) 3 43 (-1)))), (h5, .inl (cy 0, 3, .inl (kc 0)))]) (fun _ => rfl) (fun qs1 H locs hT => ?_)
  refine lv_istore (pc := 1486) (lv' := [(5, .int 1), (0, .ref b), (1, .ref h0), (2, .ref h3), (3, .ref h6), (4, .int 0)]) hx hb dL_law_1486 hl (by decide) rfl (fun ls hl => ?_)
  refine lv_aload_n (pc := 1488) hx hb dL_law_1488 rfl (lv_at hl 3 rfl) ?_
  refine lv_aload_n (pc := 1489) hx hb dL_law_1489 rfl (lv_at hl 1 rfl) ?_
  refine lv_iload (pc := 1490) hx hb dL_law_1490 (lv_at hl 5 rfl) ?_
  refine lv_iconst (pc := 1492) (v := 1) hx hb dL_law_1492 (by decide) ?_
  refine z_iadd (pc := 1493) (v := 1) hx hb dL_law_1493 (by decide) ?_
  refine z_sld (pc := 1494) (v := (nI j)) hx hb hX hbl hbA hT 1 rfl (by decide) hs1 dL_law_1494 ?_
  refine lv_aload_n (pc := 1495) hx hb dL_law_1495 rfl (lv_at hl 1 rfl) ?_
  refine lv_iload (pc := 1496) hx hb dL_law_1496 (lv_at hl 5 rfl) ?_
  refine lv_iconst (pc := 1498) (v := 2) hx hb dL_law_1498 (by decide) ?_
  refine z_iadd (pc := 1499) (v := 2) hx hb dL_law_1499 (by decide) ?_
  refine z_sld (pc := 1500) (v := (xs 2)) hx hb hX hbl hbA hT 2 rfl (by decide) rfl dL_law_1500 ?_
  refine z_cVI (pc := 1501) hx hb hml hown hts hK hA hT lkV_RL_161 (k750_X12_ahead l G cy h3 h4 h5 h26 h27 h28 h29 h30 h31 h32 h33 h34 h35 h36 h37 h38 h39 h40 h41 h42 h43 h44 h45 h46 h47 h48 h49 h50 h51 h52 h53 h54 h55 h56 h57 h58 h59 h60 h61 h62 h63 h64 h65 h66 (xs 2) j (gm) (by omega) (by omega) hneg) [0, 1, 2, 3] [] rfl rfl rfl rfl rfl 0 rfl rfl (by decide) rfl hl.1 rfl (Nat.le_of_ble_eq_true rfl) dL_law_1501 ⟨Nat.le_of_ble_eq_true rfl, Nat.le_of_ble_eq_true rfl⟩ (fun _ => [(h3, .inr (12, [.int 1, .ref h5, .int 0, .int 0, .int 0, .int (-1), .int 0, .int 0, .ref h26, .ref h4, .ref h27, .ref h28, .int 0, .ref h29, .ref h30, .int 0, .ref h31, .ref h32, .ref h33, .ref h34, .ref h35, .int 0, .ref h36, .ref h37, .ref h38, .int 0, .ref h39, .ref h40, .ref h41, .int 0, .int 0, .ref h42, .ref h43, .ref h44, .int 0, .long 0, .long 0, .ref h45, .ref h46, .ref h47, .ref h48, .ref h49, .ref h50, .ref h51, .ref h52, .ref h53, .ref h54, .int 0, .int 0, .ref h55, .ref h56, .ref h57, .ref h58, .ref h59, .ref h60, .ref h61, .ref h62, .ref h63, .int 0, .int 0, .int 0, .int 0, .long 0, .ref h64, .ref h65, .ref h66, .int 0, .int 0, .long 0]))]) (fun _ => rfl) (fun qs2 H locs hT => ?_)
  refine lv_istore (pc := 1504) (lv' := [(6, .int 0), (5, .int 1), (0, .ref b), (1, .ref h0), (2, .ref h3), (3, .ref h6), (4, .int 0)]) hx hb dL_law_1504 hl (by decide) rfl (fun ls hl => ?_)
  refine lv_aload_n (pc := 1506) hx hb dL_law_1506 rfl (lv_at hl 4 rfl) ?_
  refine z_cVI (pc := 1507) hx hb hml hown hts hK hA hT lkV_RL_96 (k1051_X12_thrown l G cy h3 h5 h26 h4 h27 h28 h29 h30 h31 h32 h33 h34 h35 h36 h37 h38 h39 h40 h41 h42 h43 h44 h45 h46 h47 h48 h49 h50 h51 h52 h53 h54 h55 h56 h57 h58 h59 h60 h61 h62 h63 h64 h65 h66) [0] [] rfl rfl rfl rfl rfl 0 rfl rfl (by decide) rfl hl.1 rfl (Nat.le_of_ble_eq_true rfl) dL_law_1507 ⟨Nat.le_of_ble_eq_true rfl, Nat.le_of_ble_eq_true rfl⟩ (fun _ => [(h3, .inr (12, [.int 1, .ref h5, .int 0, .int 0, .int 0, .int (-1), .int 0, .int 0, .ref h26, .ref h4, .ref h27, .ref h28, .int 0, .ref h29, .ref h30, .int 0, .ref h31, .ref h32, .ref h33, .ref h34, .ref h35, .int 0, .ref h36, .ref h37, .ref h38, .int 0, .ref h39, .ref h40, .ref h41, .int 0, .int 0, .ref h42, .ref h43, .ref h44, .int 0, .long 0, .long 0, .ref h45, .ref h46, .ref h47, .ref h48, .ref h49, .ref h50, .ref h51, .ref h52, .ref h53, .ref h54, .int 0, .int 0, .ref h55, .ref h56, .ref h57, .ref h58, .ref h59, .ref h60, .ref h61, .ref h62, .ref h63, .int 0, .int 0, .int 0, .int 0, .long 0, .ref h64, .ref h65, .ref h66, .int 0, .int 0, .long 0]))]) (fun _ => rfl) (fun qs3 H locs hT => ?_)
  refine lv_iload (pc := 1510) hx hb dL_law_1510 (lv_at hl 1 rfl) ?_
  refine zb_icmp_eq_t (pc := 1512) (tgt := 1517) hx hb dL_law_1512 (by decide) (by decide) ?_
  refine lv_iload (pc := 1517) hx hb dL_law_1517 (lv_at hl 1 rfl) ?_
  refine zb_if_ne_t (pc := 1519) (tgt := 1534) hx hb dL_law_1519 (by decide) (by decide) ?_
  refine lv_goto (pc := 1534) (tgt := 1719) hx hb dL_law_1534 (by decide) ?_
  exact q_end hx hb hr hlk hX hbl hT (lv_sub hl [2, 6] rfl) (Nat.le_of_ble_eq_true rfl) (Nat.le_of_ble_eq_true rfl)
set_option maxHeartbeats 4000000 in
set_option maxRecDepth 100000 in
theorem q_ahead_1_big {p : Program} {l : Launch} {e : Env} {s : State} {m : MethodId} {below : List Frame} {meth : Method} {c : Code} {H : Heap} {locs : List Loc} {ls : Array Slot} {G : va_G} {cy : Nat → ClassId} {b : Nat} {xs : Nat → Int32} (C : zC l G cy p s m meth c b 6 xs) (h0 h1 h2 h3 h4 h5 h6 h7 h8 h9 h10 h11 h12 h13 h14 h15 h16 h17 h18 h19 h20 h21 h22 h23 h24 h25 h26 h27 h28 h29 h30 h31 h32 h33 h34 h35 h36 h37 h38 h39 h40 h41 h42 h43 h44 h45 h46 h47 h48 h49 h50 h51 h52 h53 h54 h55 h56 h57 h58 h59 h60 h61 h62 h63 h64 h65 h66 : Nat) (gx : Nat → Nat) (gm : Nat → Nat) (j : Nat) (hloj : 0 ≤ j) (hhij : j < 6) (hs1 : xs 1 = (nI j)) (hb1 : ¬ ((xs 2) : Int32) < 0) (hb2 : ¬ ((xs 2) : Int32) < 1) (hb3 : (0 : Int32) < (xs 2)) (hT : zT G (fun q => s.heap.size ≤ q) s.heap H locs [(h0, .inr (11, [.ref h1, .ref h7, .ref h8, .ref h9, .ref h10, .ref h11, .ref h12, .ref h13, .ref h14, .ref h15, .ref h2, .int (-1), .int (-1), .int (-1), .int (-1)])), (h1, .inl (cy 3, 6, .inr (.inr (.inr (.inr (fun i => some (gx i))))))), ((gx j), .inr (3, [.int 1, .int 0, .int 0, .int 0, .ref h16, .ref h17, .ref h18, .ref h19, .ref h20, .ref h21, .ref h22, .ref h23, .ref h24, .ref h25])), (h2, .inl (cy 0, 3, .inl (kc 0))), (h3, .inr (12, [.int 0, .ref h5, .int 0, .int 0, .int 0, .int (-1), .int 0, .int 0, .ref h26, .ref h4, .ref h27, .ref h28, .int 0, .ref h29, .ref h30, .int 0, .ref h31, .ref h32, .ref h33, .ref h34, .ref h35, .int 0, .ref h36, .ref h37, .ref h38, .int 0, .ref h39, .ref h40, .ref h41, .int 0, .int 0, .ref h42, .ref h43, .ref h44, .int 0, .long 0, .long 0, .ref h45, .ref h46, .ref h47, .ref h48, .ref h49, .ref h50, .ref h51, .ref h52, .ref h53, .ref h54, .int 0, .int 0, .ref h55, .ref h56, .ref h57, .ref h58, .ref h59, .ref h60, .ref h61, .ref h62, .ref h63, .int 0, .int 0, .int 0, .int 0, .long 0, .ref h64, .ref h65, .ref h66, .int 0, .int 0, .long 0])), (h4, .inl (cy 4, 6, .inr (.inr (.inr (.inr (fun i => some (gm i))))))), ((gm j), .inl (cy 0, 643, .inl (zfil (upd (kc 0) 0 1) 3 43 (-1)))), (h5, .inl (cy 0, 3, .inl (kc 0)))]) (hl : lv_has ls 8 [(0, .ref b), (1, .ref h0), (2, .ref h3), (3, .ref h6), (4, .int 0)]) : W p l e (zR 1000 600002 7302232) s m #[Value.ref b] below meth c H locs 476 284354 (lw_Z below #[Value.ref b] s) (F0 m 1469 ls []) := by
  obtain ⟨hl0, hx, hb, hr, hml, hown, hts, hX, hbl, hlk, hK, hE, q1, v1, q2, v2, hS⟩ := C
  have hA : ∀ q : Nat, s.heap.size ≤ q → (fun q => s.heap.size ≤ q) q := fun _ h => h
  have hbA : ¬ (fun q => s.heap.size ≤ q) b := Nat.not_le.mpr hbl
  refine lv_aload_n (pc := 1469) hx hb dL_law_1469 rfl (lv_at hl 1 rfl) ?_
  refine lv_aload_n (pc := 1470) hx hb dL_law_1470 rfl (lv_at hl 0 rfl) ?_
  refine lv_iload (pc := 1471) hx hb dL_law_1471 (lv_at hl 4 rfl) ?_
  refine lv_iconst (pc := 1473) (v := 1) hx hb dL_law_1473 (by decide) ?_
  refine z_iadd (pc := 1474) (v := 1) hx hb dL_law_1474 (by decide) ?_
  refine z_sld (pc := 1475) (v := (nI j)) hx hb hX hbl hbA hT 1 rfl (by decide) hs1 dL_law_1475 ?_
  refine lv_aload_n (pc := 1476) hx hb dL_law_1476 rfl (lv_at hl 0 rfl) ?_
  refine lv_iload (pc := 1477) hx hb dL_law_1477 (lv_at hl 4 rfl) ?_
  refine lv_iconst (pc := 1479) (v := 2) hx hb dL_law_1479 (by decide) ?_
  refine z_iadd (pc := 1480) (v := 2) hx hb dL_law_1480 (by decide) ?_
  refine z_sld (pc := 1481) (v := (xs 2)) hx hb hX hbl hbA hT 2 rfl (by decide) rfl dL_law_1481 ?_
  refine lv_aload_n (pc := 1482) hx hb dL_law_1482 rfl (lv_at hl 3 rfl) ?_
  refine z_eHI (pc := 1483) zE_ok hE hx hb hml hown hts hK hA hT lkH_RL_159 ((k895_L_ahead l G cy hl0 h0 h1 h2 h6 h7 h8 h9 h10 h11 h12 h13 h14 h15 h16 h17 h18 h19 h20 h21 h22 h23 h24 h25 (xs 2) j (gx) (by omega) (by omega) hb1 hb2).e) [0, 1, 2, 3] [4, 5, 6, 7] rfl rfl rfl rfl rfl (by decide) rfl hl.1 rfl (Nat.le_of_ble_eq_true rfl) dL_law_1483 ⟨Nat.le_of_ble_eq_true rfl, Nat.le_of_ble_eq_true rfl⟩ (fun _ => [(h3, .inr (12, [.int 0, .ref h5, .int 0, .int 0, .int 0, .int (-1), .int 0, .int 0, .ref h26, .ref h4, .ref h27, .ref h28, .int 0, .ref h29, .ref h30, .int 0, .ref h31, .ref h32, .ref h33, .ref h34, .ref h35, .int 0, .ref h36, .ref h37, .ref h38, .int 0, .ref h39, .ref h40, .ref h41, .int 0, .int 0, .ref h42, .ref h43, .ref h44, .int 0, .long 0, .long 0, .ref h45, .ref h46, .ref h47, .ref h48, .ref h49, .ref h50, .ref h51, .ref h52, .ref h53, .ref h54, .int 0, .int 0, .ref h55, .ref h56, .ref h57, .ref h58, .ref h59, .ref h60, .ref h61, .ref h62, .ref h63, .int 0, .int 0, .int 0, .int 0, .long 0, .ref h64, .ref h65, .ref h66, .int 0, .int 0, .long 0])), (h4, .inl (cy 4, 6, .inr (.inr (.inr (.inr (fun i => some (gm i))))))), ((gm j), .inl (cy 0, 643, .inl (zfil (upd (kc 0) 0 1) 3 43 (-1)))), (h5, .inl (cy 0, 3, .inl (kc 0)))]) (fun _ => rfl) (fun qs1 H locs hT => ?_)
  refine lv_istore (pc := 1486) (lv' := [(5, .int 1), (0, .ref b), (1, .ref h0), (2, .ref h3), (3, .ref h6), (4, .int 0)]) hx hb dL_law_1486 hl (by decide) rfl (fun ls hl => ?_)
  refine lv_aload_n (pc := 1488) hx hb dL_law_1488 rfl (lv_at hl 3 rfl) ?_
  refine lv_aload_n (pc := 1489) hx hb dL_law_1489 rfl (lv_at hl 1 rfl) ?_
  refine lv_iload (pc := 1490) hx hb dL_law_1490 (lv_at hl 5 rfl) ?_
  refine lv_iconst (pc := 1492) (v := 1) hx hb dL_law_1492 (by decide) ?_
  refine z_iadd (pc := 1493) (v := 1) hx hb dL_law_1493 (by decide) ?_
  refine z_sld (pc := 1494) (v := (nI j)) hx hb hX hbl hbA hT 1 rfl (by decide) hs1 dL_law_1494 ?_
  refine lv_aload_n (pc := 1495) hx hb dL_law_1495 rfl (lv_at hl 1 rfl) ?_
  refine lv_iload (pc := 1496) hx hb dL_law_1496 (lv_at hl 5 rfl) ?_
  refine lv_iconst (pc := 1498) (v := 2) hx hb dL_law_1498 (by decide) ?_
  refine z_iadd (pc := 1499) (v := 2) hx hb dL_law_1499 (by decide) ?_
  refine z_sld (pc := 1500) (v := (xs 2)) hx hb hX hbl hbA hT 2 rfl (by decide) rfl dL_law_1500 ?_
  refine z_cVI (pc := 1501) hx hb hml hown hts hK hA hT lkV_RL_161 (k751_X12_ahead l G cy h3 h4 h5 h26 h27 h28 h29 h30 h31 h32 h33 h34 h35 h36 h37 h38 h39 h40 h41 h42 h43 h44 h45 h46 h47 h48 h49 h50 h51 h52 h53 h54 h55 h56 h57 h58 h59 h60 h61 h62 h63 h64 h65 h66 (xs 2) j (gm) (by omega) (by omega) hb1 hb3) [0, 1, 2, 3] [] rfl rfl rfl rfl rfl 0 rfl rfl (by decide) rfl hl.1 rfl (Nat.le_of_ble_eq_true rfl) dL_law_1501 ⟨Nat.le_of_ble_eq_true rfl, Nat.le_of_ble_eq_true rfl⟩ (fun _ => [(h3, .inr (12, [.int 1, .ref h5, .int 0, .int 0, .int 0, .int (-1), .int 0, .int 0, .ref h26, .ref h4, .ref h27, .ref h28, .int 0, .ref h29, .ref h30, .int 0, .ref h31, .ref h32, .ref h33, .ref h34, .ref h35, .int 0, .ref h36, .ref h37, .ref h38, .int 0, .ref h39, .ref h40, .ref h41, .int 0, .int 0, .ref h42, .ref h43, .ref h44, .int 0, .long 0, .long 0, .ref h45, .ref h46, .ref h47, .ref h48, .ref h49, .ref h50, .ref h51, .ref h52, .ref h53, .ref h54, .int 0, .int 0, .ref h55, .ref h56, .ref h57, .ref h58, .ref h59, .ref h60, .ref h61, .ref h62, .ref h63, .int 0, .int 0, .int 0, .int 0, .long 0, .ref h64, .ref h65, .ref h66, .int 0, .int 0, .long 0]))]) (fun _ => rfl) (fun qs2 H locs hT => ?_)
  refine lv_istore (pc := 1504) (lv' := [(6, .int 0), (5, .int 1), (0, .ref b), (1, .ref h0), (2, .ref h3), (3, .ref h6), (4, .int 0)]) hx hb dL_law_1504 hl (by decide) rfl (fun ls hl => ?_)
  refine lv_aload_n (pc := 1506) hx hb dL_law_1506 rfl (lv_at hl 4 rfl) ?_
  refine z_cVI (pc := 1507) hx hb hml hown hts hK hA hT lkV_RL_96 (k1051_X12_thrown l G cy h3 h5 h26 h4 h27 h28 h29 h30 h31 h32 h33 h34 h35 h36 h37 h38 h39 h40 h41 h42 h43 h44 h45 h46 h47 h48 h49 h50 h51 h52 h53 h54 h55 h56 h57 h58 h59 h60 h61 h62 h63 h64 h65 h66) [0] [] rfl rfl rfl rfl rfl 0 rfl rfl (by decide) rfl hl.1 rfl (Nat.le_of_ble_eq_true rfl) dL_law_1507 ⟨Nat.le_of_ble_eq_true rfl, Nat.le_of_ble_eq_true rfl⟩ (fun _ => [(h3, .inr (12, [.int 1, .ref h5, .int 0, .int 0, .int 0, .int (-1), .int 0, .int 0, .ref h26, .ref h4, .ref h27, .ref h28, .int 0, .ref h29, .ref h30, .int 0, .ref h31, .ref h32, .ref h33, .ref h34, .ref h35, .int 0, .ref h36, .ref h37, .ref h38, .int 0, .ref h39, .ref h40, .ref h41, .int 0, .int 0, .ref h42, .ref h43, .ref h44, .int 0, .long 0, .long 0, .ref h45, .ref h46, .ref h47, .ref h48, .ref h49, .ref h50, .ref h51, .ref h52, .ref h53, .ref h54, .int 0, .int 0, .ref h55, .ref h56, .ref h57, .ref h58, .ref h59, .ref h60, .ref h61, .ref h62, .ref h63, .int 0, .int 0, .int 0, .int 0, .long 0, .ref h64, .ref h65, .ref h66, .int 0, .int 0, .long 0]))]) (fun _ => rfl) (fun qs3 H locs hT => ?_)
  refine lv_iload (pc := 1510) hx hb dL_law_1510 (lv_at hl 1 rfl) ?_
  refine zb_icmp_eq_t (pc := 1512) (tgt := 1517) hx hb dL_law_1512 (by decide) (by decide) ?_
  refine lv_iload (pc := 1517) hx hb dL_law_1517 (lv_at hl 1 rfl) ?_
  refine zb_if_ne_t (pc := 1519) (tgt := 1534) hx hb dL_law_1519 (by decide) (by decide) ?_
  refine lv_goto (pc := 1534) (tgt := 1719) hx hb dL_law_1534 (by decide) ?_
  exact q_end hx hb hr hlk hX hbl hT (lv_sub hl [2, 6] rfl) (Nat.le_of_ble_eq_true rfl) (Nat.le_of_ble_eq_true rfl)
set_option maxHeartbeats 4000000 in
set_option maxRecDepth 100000 in
theorem q_merged_0_neg {p : Program} {l : Launch} {e : Env} {s : State} {m : MethodId} {below : List Frame} {meth : Method} {c : Code} {H : Heap} {locs : List Loc} {ls : Array Slot} {G : va_G} {cy : Nat → ClassId} {b : Nat} {xs : Nat → Int32} (C : zC l G cy p s m meth c b 6 xs) (h0 h1 h2 h3 h4 h5 h6 h7 h8 h9 h10 h11 h12 h13 h14 h15 h16 h17 h18 h19 h20 h21 h22 h23 h24 h25 h26 h27 h28 h29 h30 h31 h32 h33 h34 h35 h36 h37 h38 h39 h40 h41 h42 h43 h44 h45 h46 h47 h48 h49 h50 h51 h52 h53 h54 h55 h56 : Nat) (hneg : ((xs 1) : Int32) < 0) (hT : zT G (fun q => s.heap.size ≤ q) s.heap H locs [(h0, .inr (11, [.ref h5, .ref h6, .ref h7, .ref h8, .ref h9, .ref h10, .ref h11, .ref h12, .ref h13, .ref h14, .ref h1, .int (-1), .int (-1), .int (-1), .int (-1)])), (h1, .inl (cy 0, 3, .inl (kc 0))), (h2, .inr (12, [.int 0, .ref h3, .int 0, .int 0, .int 0, .int (-1), .int 0, .int 0, .ref h15, .ref h16, .ref h17, .ref h18, .int 0, .ref h19, .ref h20, .int 0, .ref h21, .ref h22, .ref h23, .ref h24, .ref h25, .int 0, .ref h26, .ref h27, .ref h28, .int 0, .ref h29, .ref h30, .ref h31, .int 0, .int 0, .ref h32, .ref h33, .ref h34, .int 0, .long 0, .long 0, .ref h35, .ref h36, .ref h37, .ref h38, .ref h39, .ref h40, .ref h41, .ref h42, .ref h43, .ref h44, .int 0, .int 0, .ref h45, .ref h46, .ref h47, .ref h48, .ref h49, .ref h50, .ref h51, .ref h52, .ref h53, .int 0, .int 0, .int 0, .int 0, .long 0, .ref h54, .ref h55, .ref h56, .int 0, .int 0, .long 0])), (h3, .inl (cy 0, 3, .inl (kc 0)))]) (hl : lv_has ls 8 [(0, .ref b), (1, .ref h0), (2, .ref h2), (3, .ref h4), (4, .int 0)]) : W p l e (zR 1000 600002 7302232) s m #[Value.ref b] below meth c H locs 476 284354 (lw_Z below #[Value.ref b] s) (F0 m 1537 ls []) := by
  obtain ⟨hl0, hx, hb, hr, hml, hown, hts, hX, hbl, hlk, hK, hE, q1, v1, q2, v2, hS⟩ := C
  have hA : ∀ q : Nat, s.heap.size ≤ q → (fun q => s.heap.size ≤ q) q := fun _ h => h
  have hbA : ¬ (fun q => s.heap.size ≤ q) b := Nat.not_le.mpr hbl
  refine lv_aload_n (pc := 1537) hx hb dL_law_1537 rfl (lv_at hl 1 rfl) ?_
  refine lv_aload_n (pc := 1538) hx hb dL_law_1538 rfl (lv_at hl 0 rfl) ?_
  refine lv_iload (pc := 1539) hx hb dL_law_1539 (lv_at hl 4 rfl) ?_
  refine lv_iconst (pc := 1541) (v := 1) hx hb dL_law_1541 (by decide) ?_
  refine z_iadd (pc := 1542) (v := 1) hx hb dL_law_1542 (by decide) ?_
  refine z_sld (pc := 1543) (v := (xs 1)) hx hb hX hbl hbA hT 1 rfl (by decide) rfl dL_law_1543 ?_
  refine lv_aload_n (pc := 1544) hx hb dL_law_1544 rfl (lv_at hl 0 rfl) ?_
  refine lv_iload (pc := 1545) hx hb dL_law_1545 (lv_at hl 4 rfl) ?_
  refine lv_iconst (pc := 1547) (v := 2) hx hb dL_law_1547 (by decide) ?_
  refine z_iadd (pc := 1548) (v := 2) hx hb dL_law_1548 (by decide) ?_
  refine z_sld (pc := 1549) (v := (xs 2)) hx hb hX hbl hbA hT 2 rfl (by decide) rfl dL_law_1549 ?_
  refine lv_aload_n (pc := 1550) hx hb dL_law_1550 rfl (lv_at hl 3 rfl) ?_
  refine z_eHI (pc := 1551) zE_ok hE hx hb hml hown hts hK hA hT lkH_RL_162 ((k896_L_merged l G cy hl0 h0 h1 h4 h5 h6 h7 h8 h9 h10 h11 h12 h13 h14 (xs 1) (xs 2) hneg).e) [0, 1] [2, 3] rfl rfl rfl rfl rfl (by decide) rfl hl.1 rfl (Nat.le_of_ble_eq_true rfl) dL_law_1551 ⟨Nat.le_of_ble_eq_true rfl, Nat.le_of_ble_eq_true rfl⟩ (fun _ => [(h2, .inr (12, [.int 0, .ref h3, .int 0, .int 0, .int 0, .int (-1), .int 0, .int 0, .ref h15, .ref h16, .ref h17, .ref h18, .int 0, .ref h19, .ref h20, .int 0, .ref h21, .ref h22, .ref h23, .ref h24, .ref h25, .int 0, .ref h26, .ref h27, .ref h28, .int 0, .ref h29, .ref h30, .ref h31, .int 0, .int 0, .ref h32, .ref h33, .ref h34, .int 0, .long 0, .long 0, .ref h35, .ref h36, .ref h37, .ref h38, .ref h39, .ref h40, .ref h41, .ref h42, .ref h43, .ref h44, .int 0, .int 0, .ref h45, .ref h46, .ref h47, .ref h48, .ref h49, .ref h50, .ref h51, .ref h52, .ref h53, .int 0, .int 0, .int 0, .int 0, .long 0, .ref h54, .ref h55, .ref h56, .int 0, .int 0, .long 0])), (h3, .inl (cy 0, 3, .inl (kc 0)))]) (fun _ => rfl) (fun qs1 H locs hT => ?_)
  refine lv_istore (pc := 1554) (lv' := [(5, .int 1), (0, .ref b), (1, .ref h0), (2, .ref h2), (3, .ref h4), (4, .int 0)]) hx hb dL_law_1554 hl (by decide) rfl (fun ls hl => ?_)
  refine lv_aload_n (pc := 1556) hx hb dL_law_1556 rfl (lv_at hl 3 rfl) ?_
  refine lv_aload_n (pc := 1557) hx hb dL_law_1557 rfl (lv_at hl 1 rfl) ?_
  refine lv_iload (pc := 1558) hx hb dL_law_1558 (lv_at hl 5 rfl) ?_
  refine lv_iconst (pc := 1560) (v := 1) hx hb dL_law_1560 (by decide) ?_
  refine z_iadd (pc := 1561) (v := 1) hx hb dL_law_1561 (by decide) ?_
  refine z_sld (pc := 1562) (v := (xs 1)) hx hb hX hbl hbA hT 1 rfl (by decide) rfl dL_law_1562 ?_
  refine lv_aload_n (pc := 1563) hx hb dL_law_1563 rfl (lv_at hl 1 rfl) ?_
  refine lv_iload (pc := 1564) hx hb dL_law_1564 (lv_at hl 5 rfl) ?_
  refine lv_iconst (pc := 1566) (v := 2) hx hb dL_law_1566 (by decide) ?_
  refine z_iadd (pc := 1567) (v := 2) hx hb dL_law_1567 (by decide) ?_
  refine z_sld (pc := 1568) (v := (xs 2)) hx hb hX hbl hbA hT 2 rfl (by decide) rfl dL_law_1568 ?_
  refine z_cVI (pc := 1569) hx hb hml hown hts hK hA hT lkV_RL_164 (k752_X12_merged l G cy h2 h3 h15 h16 h17 h18 h19 h20 h21 h22 h23 h24 h25 h26 h27 h28 h29 h30 h31 h32 h33 h34 h35 h36 h37 h38 h39 h40 h41 h42 h43 h44 h45 h46 h47 h48 h49 h50 h51 h52 h53 h54 h55 h56 (xs 1) (xs 2) hneg) [0, 1] [] rfl rfl rfl rfl rfl 0 rfl rfl (by decide) rfl hl.1 rfl (Nat.le_of_ble_eq_true rfl) dL_law_1569 ⟨Nat.le_of_ble_eq_true rfl, Nat.le_of_ble_eq_true rfl⟩ (fun _ => [(h2, .inr (12, [.int 1, .ref h3, .int 0, .int 0, .int 0, .int (-1), .int 0, .int 0, .ref h15, .ref h16, .ref h17, .ref h18, .int 0, .ref h19, .ref h20, .int 0, .ref h21, .ref h22, .ref h23, .ref h24, .ref h25, .int 0, .ref h26, .ref h27, .ref h28, .int 0, .ref h29, .ref h30, .ref h31, .int 0, .int 0, .ref h32, .ref h33, .ref h34, .int 0, .long 0, .long 0, .ref h35, .ref h36, .ref h37, .ref h38, .ref h39, .ref h40, .ref h41, .ref h42, .ref h43, .ref h44, .int 0, .int 0, .ref h45, .ref h46, .ref h47, .ref h48, .ref h49, .ref h50, .ref h51, .ref h52, .ref h53, .int 0, .int 0, .int 0, .int 0, .long 0, .ref h54, .ref h55, .ref h56, .int 0, .int 0, .long 0]))]) (fun _ => rfl) (fun qs2 H locs hT => ?_)
  refine lv_istore (pc := 1572) (lv' := [(6, .int 0), (5, .int 1), (0, .ref b), (1, .ref h0), (2, .ref h2), (3, .ref h4), (4, .int 0)]) hx hb dL_law_1572 hl (by decide) rfl (fun ls hl => ?_)
  refine lv_aload_n (pc := 1574) hx hb dL_law_1574 rfl (lv_at hl 4 rfl) ?_
  refine z_cVI (pc := 1575) hx hb hml hown hts hK hA hT lkV_RL_96 (k1051_X12_thrown l G cy h2 h3 h15 h16 h17 h18 h19 h20 h21 h22 h23 h24 h25 h26 h27 h28 h29 h30 h31 h32 h33 h34 h35 h36 h37 h38 h39 h40 h41 h42 h43 h44 h45 h46 h47 h48 h49 h50 h51 h52 h53 h54 h55 h56) [0] [] rfl rfl rfl rfl rfl 0 rfl rfl (by decide) rfl hl.1 rfl (Nat.le_of_ble_eq_true rfl) dL_law_1575 ⟨Nat.le_of_ble_eq_true rfl, Nat.le_of_ble_eq_true rfl⟩ (fun _ => [(h2, .inr (12, [.int 1, .ref h3, .int 0, .int 0, .int 0, .int (-1), .int 0, .int 0, .ref h15, .ref h16, .ref h17, .ref h18, .int 0, .ref h19, .ref h20, .int 0, .ref h21, .ref h22, .ref h23, .ref h24, .ref h25, .int 0, .ref h26, .ref h27, .ref h28, .int 0, .ref h29, .ref h30, .ref h31, .int 0, .int 0, .ref h32, .ref h33, .ref h34, .int 0, .long 0, .long 0, .ref h35, .ref h36, .ref h37, .ref h38, .ref h39, .ref h40, .ref h41, .ref h42, .ref h43, .ref h44, .int 0, .int 0, .ref h45, .ref h46, .ref h47, .ref h48, .ref h49, .ref h50, .ref h51, .ref h52, .ref h53, .int 0, .int 0, .int 0, .int 0, .long 0, .ref h54, .ref h55, .ref h56, .int 0, .int 0, .long 0]))]) (fun _ => rfl) (fun qs3 H locs hT => ?_)
  refine lv_iload (pc := 1578) hx hb dL_law_1578 (lv_at hl 1 rfl) ?_
  refine zb_icmp_eq_t (pc := 1580) (tgt := 1585) hx hb dL_law_1580 (by decide) (by decide) ?_
  refine lv_iload (pc := 1585) hx hb dL_law_1585 (lv_at hl 1 rfl) ?_
  refine zb_if_ne_t (pc := 1587) (tgt := 1602) hx hb dL_law_1587 (by decide) (by decide) ?_
  refine lv_goto (pc := 1602) (tgt := 1719) hx hb dL_law_1602 (by decide) ?_
  exact q_end hx hb hr hlk hX hbl hT (lv_sub hl [2, 6] rfl) (Nat.le_of_ble_eq_true rfl) (Nat.le_of_ble_eq_true rfl)
set_option maxHeartbeats 4000000 in
set_option maxRecDepth 100000 in
theorem q_merged_0_big {p : Program} {l : Launch} {e : Env} {s : State} {m : MethodId} {below : List Frame} {meth : Method} {c : Code} {H : Heap} {locs : List Loc} {ls : Array Slot} {G : va_G} {cy : Nat → ClassId} {b : Nat} {xs : Nat → Int32} (C : zC l G cy p s m meth c b 6 xs) (h0 h1 h2 h3 h4 h5 h6 h7 h8 h9 h10 h11 h12 h13 h14 h15 h16 h17 h18 h19 h20 h21 h22 h23 h24 h25 h26 h27 h28 h29 h30 h31 h32 h33 h34 h35 h36 h37 h38 h39 h40 h41 h42 h43 h44 h45 h46 h47 h48 h49 h50 h51 h52 h53 h54 h55 h56 : Nat) (hb1 : ¬ ((xs 1) : Int32) < 0) (hb2 : ¬ ((xs 1) : Int32) < 6) (hb3 : (5 : Int32) < (xs 1)) (hT : zT G (fun q => s.heap.size ≤ q) s.heap H locs [(h0, .inr (11, [.ref h5, .ref h6, .ref h7, .ref h8, .ref h9, .ref h10, .ref h11, .ref h12, .ref h13, .ref h14, .ref h1, .int (-1), .int (-1), .int (-1), .int (-1)])), (h1, .inl (cy 0, 3, .inl (kc 0))), (h2, .inr (12, [.int 0, .ref h3, .int 0, .int 0, .int 0, .int (-1), .int 0, .int 0, .ref h15, .ref h16, .ref h17, .ref h18, .int 0, .ref h19, .ref h20, .int 0, .ref h21, .ref h22, .ref h23, .ref h24, .ref h25, .int 0, .ref h26, .ref h27, .ref h28, .int 0, .ref h29, .ref h30, .ref h31, .int 0, .int 0, .ref h32, .ref h33, .ref h34, .int 0, .long 0, .long 0, .ref h35, .ref h36, .ref h37, .ref h38, .ref h39, .ref h40, .ref h41, .ref h42, .ref h43, .ref h44, .int 0, .int 0, .ref h45, .ref h46, .ref h47, .ref h48, .ref h49, .ref h50, .ref h51, .ref h52, .ref h53, .int 0, .int 0, .int 0, .int 0, .long 0, .ref h54, .ref h55, .ref h56, .int 0, .int 0, .long 0])), (h3, .inl (cy 0, 3, .inl (kc 0)))]) (hl : lv_has ls 8 [(0, .ref b), (1, .ref h0), (2, .ref h2), (3, .ref h4), (4, .int 0)]) : W p l e (zR 1000 600002 7302232) s m #[Value.ref b] below meth c H locs 476 284354 (lw_Z below #[Value.ref b] s) (F0 m 1537 ls []) := by
  obtain ⟨hl0, hx, hb, hr, hml, hown, hts, hX, hbl, hlk, hK, hE, q1, v1, q2, v2, hS⟩ := C
  have hA : ∀ q : Nat, s.heap.size ≤ q → (fun q => s.heap.size ≤ q) q := fun _ h => h
  have hbA : ¬ (fun q => s.heap.size ≤ q) b := Nat.not_le.mpr hbl
  refine lv_aload_n (pc := 1537) hx hb dL_law_1537 rfl (lv_at hl 1 rfl) ?_
  refine lv_aload_n (pc := 1538) hx hb dL_law_1538 rfl (lv_at hl 0 rfl) ?_
  refine lv_iload (pc := 1539) hx hb dL_law_1539 (lv_at hl 4 rfl) ?_
  refine lv_iconst (pc := 1541) (v := 1) hx hb dL_law_1541 (by decide) ?_
  refine z_iadd (pc := 1542) (v := 1) hx hb dL_law_1542 (by decide) ?_
  refine z_sld (pc := 1543) (v := (xs 1)) hx hb hX hbl hbA hT 1 rfl (by decide) rfl dL_law_1543 ?_
  refine lv_aload_n (pc := 1544) hx hb dL_law_1544 rfl (lv_at hl 0 rfl) ?_
  refine lv_iload (pc := 1545) hx hb dL_law_1545 (lv_at hl 4 rfl) ?_
  refine lv_iconst (pc := 1547) (v := 2) hx hb dL_law_1547 (by decide) ?_
  refine z_iadd (pc := 1548) (v := 2) hx hb dL_law_1548 (by decide) ?_
  refine z_sld (pc := 1549) (v := (xs 2)) hx hb hX hbl hbA hT 2 rfl (by decide) rfl dL_law_1549 ?_
  refine lv_aload_n (pc := 1550) hx hb dL_law_1550 rfl (lv_at hl 3 rfl) ?_
  refine z_eHI (pc := 1551) zE_ok hE hx hb hml hown hts hK hA hT lkH_RL_162 ((k897_L_merged l G cy hl0 h0 h1 h4 h5 h6 h7 h8 h9 h10 h11 h12 h13 h14 (xs 1) (xs 2) hb1 hb2).e) [0, 1] [2, 3] rfl rfl rfl rfl rfl (by decide) rfl hl.1 rfl (Nat.le_of_ble_eq_true rfl) dL_law_1551 ⟨Nat.le_of_ble_eq_true rfl, Nat.le_of_ble_eq_true rfl⟩ (fun _ => [(h2, .inr (12, [.int 0, .ref h3, .int 0, .int 0, .int 0, .int (-1), .int 0, .int 0, .ref h15, .ref h16, .ref h17, .ref h18, .int 0, .ref h19, .ref h20, .int 0, .ref h21, .ref h22, .ref h23, .ref h24, .ref h25, .int 0, .ref h26, .ref h27, .ref h28, .int 0, .ref h29, .ref h30, .ref h31, .int 0, .int 0, .ref h32, .ref h33, .ref h34, .int 0, .long 0, .long 0, .ref h35, .ref h36, .ref h37, .ref h38, .ref h39, .ref h40, .ref h41, .ref h42, .ref h43, .ref h44, .int 0, .int 0, .ref h45, .ref h46, .ref h47, .ref h48, .ref h49, .ref h50, .ref h51, .ref h52, .ref h53, .int 0, .int 0, .int 0, .int 0, .long 0, .ref h54, .ref h55, .ref h56, .int 0, .int 0, .long 0])), (h3, .inl (cy 0, 3, .inl (kc 0)))]) (fun _ => rfl) (fun qs1 H locs hT => ?_)
  refine lv_istore (pc := 1554) (lv' := [(5, .int 1), (0, .ref b), (1, .ref h0), (2, .ref h2), (3, .ref h4), (4, .int 0)]) hx hb dL_law_1554 hl (by decide) rfl (fun ls hl => ?_)
  refine lv_aload_n (pc := 1556) hx hb dL_law_1556 rfl (lv_at hl 3 rfl) ?_
  refine lv_aload_n (pc := 1557) hx hb dL_law_1557 rfl (lv_at hl 1 rfl) ?_
  refine lv_iload (pc := 1558) hx hb dL_law_1558 (lv_at hl 5 rfl) ?_
  refine lv_iconst (pc := 1560) (v := 1) hx hb dL_law_1560 (by decide) ?_
  refine z_iadd (pc := 1561) (v := 1) hx hb dL_law_1561 (by decide) ?_
  refine z_sld (pc := 1562) (v := (xs 1)) hx hb hX hbl hbA hT 1 rfl (by decide) rfl dL_law_1562 ?_
  refine lv_aload_n (pc := 1563) hx hb dL_law_1563 rfl (lv_at hl 1 rfl) ?_
  refine lv_iload (pc := 1564) hx hb dL_law_1564 (lv_at hl 5 rfl) ?_
  refine lv_iconst (pc := 1566) (v := 2) hx hb dL_law_1566 (by decide) ?_
  refine z_iadd (pc := 1567) (v := 2) hx hb dL_law_1567 (by decide) ?_
  refine z_sld (pc := 1568) (v := (xs 2)) hx hb hX hbl hbA hT 2 rfl (by decide) rfl dL_law_1568 ?_
  refine z_cVI (pc := 1569) hx hb hml hown hts hK hA hT lkV_RL_164 (k753_X12_merged l G cy h2 h3 h15 h16 h17 h18 h19 h20 h21 h22 h23 h24 h25 h26 h27 h28 h29 h30 h31 h32 h33 h34 h35 h36 h37 h38 h39 h40 h41 h42 h43 h44 h45 h46 h47 h48 h49 h50 h51 h52 h53 h54 h55 h56 (xs 1) (xs 2) hb1 hb3) [0, 1] [] rfl rfl rfl rfl rfl 0 rfl rfl (by decide) rfl hl.1 rfl (Nat.le_of_ble_eq_true rfl) dL_law_1569 ⟨Nat.le_of_ble_eq_true rfl, Nat.le_of_ble_eq_true rfl⟩ (fun _ => [(h2, .inr (12, [.int 1, .ref h3, .int 0, .int 0, .int 0, .int (-1), .int 0, .int 0, .ref h15, .ref h16, .ref h17, .ref h18, .int 0, .ref h19, .ref h20, .int 0, .ref h21, .ref h22, .ref h23, .ref h24, .ref h25, .int 0, .ref h26, .ref h27, .ref h28, .int 0, .ref h29, .ref h30, .ref h31, .int 0, .int 0, .ref h32, .ref h33, .ref h34, .int 0, .long 0, .long 0, .ref h35, .ref h36, .ref h37, .ref h38, .ref h39, .ref h40, .ref h41, .ref h42, .ref h43, .ref h44, .int 0, .int 0, .ref h45, .ref h46, .ref h47, .ref h48, .ref h49, .ref h50, .ref h51, .ref h52, .ref h53, .int 0, .int 0, .int 0, .int 0, .long 0, .ref h54, .ref h55, .ref h56, .int 0, .int 0, .long 0]))]) (fun _ => rfl) (fun qs2 H locs hT => ?_)
  refine lv_istore (pc := 1572) (lv' := [(6, .int 0), (5, .int 1), (0, .ref b), (1, .ref h0), (2, .ref h2), (3, .ref h4), (4, .int 0)]) hx hb dL_law_1572 hl (by decide) rfl (fun ls hl => ?_)
  refine lv_aload_n (pc := 1574) hx hb dL_law_1574 rfl (lv_at hl 4 rfl) ?_
  refine z_cVI (pc := 1575) hx hb hml hown hts hK hA hT lkV_RL_96 (k1051_X12_thrown l G cy h2 h3 h15 h16 h17 h18 h19 h20 h21 h22 h23 h24 h25 h26 h27 h28 h29 h30 h31 h32 h33 h34 h35 h36 h37 h38 h39 h40 h41 h42 h43 h44 h45 h46 h47 h48 h49 h50 h51 h52 h53 h54 h55 h56) [0] [] rfl rfl rfl rfl rfl 0 rfl rfl (by decide) rfl hl.1 rfl (Nat.le_of_ble_eq_true rfl) dL_law_1575 ⟨Nat.le_of_ble_eq_true rfl, Nat.le_of_ble_eq_true rfl⟩ (fun _ => [(h2, .inr (12, [.int 1, .ref h3, .int 0, .int 0, .int 0, .int (-1), .int 0, .int 0, .ref h15, .ref h16, .ref h17, .ref h18, .int 0, .ref h19, .ref h20, .int 0, .ref h21, .ref h22, .ref h23, .ref h24, .ref h25, .int 0, .ref h26, .ref h27, .ref h28, .int 0, .ref h29, .ref h30, .ref h31, .int 0, .int 0, .ref h32, .ref h33, .ref h34, .int 0, .long 0, .long 0, .ref h35, .ref h36, .ref h37, .ref h38, .ref h39, .ref h40, .ref h41, .ref h42, .ref h43, .ref h44, .int 0, .int 0, .ref h45, .ref h46, .ref h47, .ref h48, .ref h49, .ref h50, .ref h51, .ref h52, .ref h53, .int 0, .int 0, .int 0, .int 0, .long 0, .ref h54, .ref h55, .ref h56, .int 0, .int 0, .long 0]))]) (fun _ => rfl) (fun qs3 H locs hT => ?_)
  refine lv_iload (pc := 1578) hx hb dL_law_1578 (lv_at hl 1 rfl) ?_
  refine zb_icmp_eq_t (pc := 1580) (tgt := 1585) hx hb dL_law_1580 (by decide) (by decide) ?_
  refine lv_iload (pc := 1585) hx hb dL_law_1585 (lv_at hl 1 rfl) ?_
  refine zb_if_ne_t (pc := 1587) (tgt := 1602) hx hb dL_law_1587 (by decide) (by decide) ?_
  refine lv_goto (pc := 1602) (tgt := 1719) hx hb dL_law_1602 (by decide) ?_
  exact q_end hx hb hr hlk hX hbl hT (lv_sub hl [2, 6] rfl) (Nat.le_of_ble_eq_true rfl) (Nat.le_of_ble_eq_true rfl)
set_option maxHeartbeats 4000000 in
set_option maxRecDepth 100000 in
theorem q_merged_1_neg {p : Program} {l : Launch} {e : Env} {s : State} {m : MethodId} {below : List Frame} {meth : Method} {c : Code} {H : Heap} {locs : List Loc} {ls : Array Slot} {G : va_G} {cy : Nat → ClassId} {b : Nat} {xs : Nat → Int32} (C : zC l G cy p s m meth c b 6 xs) (h0 h1 h2 h3 h4 h5 h6 h7 h8 h9 h10 h11 h12 h13 h14 h15 h16 h17 h18 h19 h20 h21 h22 h23 h24 h25 h26 h27 h28 h29 h30 h31 h32 h33 h34 h35 h36 h37 h38 h39 h40 h41 h42 h43 h44 h45 h46 h47 h48 h49 h50 h51 h52 h53 h54 h55 h56 h57 h58 h59 h60 h61 h62 h63 h64 h65 h66 : Nat) (gx : Nat → Nat) (gm : Nat → Nat) (j : Nat) (hloj : 0 ≤ j) (hhij : j < 6) (hs1 : xs 1 = (nI j)) (hneg : ((xs 2) : Int32) < 0) (hT : zT G (fun q => s.heap.size ≤ q) s.heap H locs [(h0, .inr (11, [.ref h1, .ref h7, .ref h8, .ref h9, .ref h10, .ref h11, .ref h12, .ref h13, .ref h14, .ref h15, .ref h2, .int (-1), .int (-1), .int (-1), .int (-1)])), (h1, .inl (cy 3, 6, .inr (.inr (.inr (.inr (fun i => some (gx i))))))), ((gx j), .inr (3, [.int 1, .int 0, .int 0, .int 0, .ref h16, .ref h17, .ref h18, .ref h19, .ref h20, .ref h21, .ref h22, .ref h23, .ref h24, .ref h25])), (h2, .inl (cy 0, 3, .inl (kc 0))), (h3, .inr (12, [.int 0, .ref h5, .int 0, .int 0, .int 0, .int (-1), .int 0, .int 0, .ref h26, .ref h4, .ref h27, .ref h28, .int 0, .ref h29, .ref h30, .int 0, .ref h31, .ref h32, .ref h33, .ref h34, .ref h35, .int 0, .ref h36, .ref h37, .ref h38, .int 0, .ref h39, .ref h40, .ref h41, .int 0, .int 0, .ref h42, .ref h43, .ref h44, .int 0, .long 0, .long 0, .ref h45, .ref h46, .ref h47, .ref h48, .ref h49, .ref h50, .ref h51, .ref h52, .ref h53, .ref h54, .int 0, .int 0, .ref h55, .ref h56, .ref h57, .ref h58, .ref h59, .ref h60, .ref h61, .ref h62, .ref h63, .int 0, .int 0, .int 0, .int 0, .long 0, .ref h64, .ref h65, .ref h66, .int 0, .int 0, .long 0])), (h4, .inl (cy 4, 6, .inr (.inr (.inr (.inr (fun i => some (gm i))))))), ((gm j), .inl (cy 0, 643, .inl (zfil (upd (kc 0) 0 1) 3 43 (-1)))), (h5, .inl (cy 0, 3, .inl (kc 0)))]) (hl : lv_has ls 8 [(0, .ref b), (1, .ref h0), (2, .ref h3), (3, .ref h6), (4, .int 0)]) : W p l e (zR 1000 600002 7302232) s m #[Value.ref b] below meth c H locs 476 284354 (lw_Z below #[Value.ref b] s) (F0 m 1537 ls []) := by
  obtain ⟨hl0, hx, hb, hr, hml, hown, hts, hX, hbl, hlk, hK, hE, q1, v1, q2, v2, hS⟩ := C
  have hA : ∀ q : Nat, s.heap.size ≤ q → (fun q => s.heap.size ≤ q) q := fun _ h => h
  have hbA : ¬ (fun q => s.heap.size ≤ q) b := Nat.not_le.mpr hbl
  refine lv_aload_n (pc := 1537) hx hb dL_law_1537 rfl (lv_at hl 1 rfl) ?_
  refine lv_aload_n (pc := 1538) hx hb dL_law_1538 rfl (lv_at hl 0 rfl) ?_
  refine lv_iload (pc := 1539) hx hb dL_law_1539 (lv_at hl 4 rfl) ?_
  refine lv_iconst (pc := 1541) (v := 1) hx hb dL_law_1541 (by decide) ?_
  refine z_iadd (pc := 1542) (v := 1) hx hb dL_law_1542 (by decide) ?_
  refine z_sld (pc := 1543) (v := (nI j)) hx hb hX hbl hbA hT 1 rfl (by decide) hs1 dL_law_1543 ?_
  refine lv_aload_n (pc := 1544) hx hb dL_law_1544 rfl (lv_at hl 0 rfl) ?_
  refine lv_iload (pc := 1545) hx hb dL_law_1545 (lv_at hl 4 rfl) ?_
  refine lv_iconst (pc := 1547) (v := 2) hx hb dL_law_1547 (by decide) ?_
  refine z_iadd (pc := 1548) (v := 2) hx hb dL_law_1548 (by decide) ?_
  refine z_sld (pc := 1549) (v := (xs 2)) hx hb hX hbl hbA hT 2 rfl (by decide) rfl dL_law_1549 ?_
  refine lv_aload_n (pc := 1550) hx hb dL_law_1550 rfl (lv_at hl 3 rfl) ?_
  refine z_eHI (pc := 1551) zE_ok hE hx hb hml hown hts hK hA hT lkH_RL_162 ((k898_L_merged l G cy hl0 h0 h1 h2 h6 h7 h8 h9 h10 h11 h12 h13 h14 h15 h16 h17 h18 h19 h20 h21 h22 h23 h24 h25 (xs 2) j (gx) (by omega) (by omega) hneg).e) [0, 1, 2, 3] [4, 5, 6, 7] rfl rfl rfl rfl rfl (by decide) rfl hl.1 rfl (Nat.le_of_ble_eq_true rfl) dL_law_1551 ⟨Nat.le_of_ble_eq_true rfl, Nat.le_of_ble_eq_true rfl⟩ (fun _ => [(h3, .inr (12, [.int 0, .ref h5, .int 0, .int 0, .int 0, .int (-1), .int 0, .int 0, .ref h26, .ref h4, .ref h27, .ref h28, .int 0, .ref h29, .ref h30, .int 0, .ref h31, .ref h32, .ref h33, .ref h34, .ref h35, .int 0, .ref h36, .ref h37, .ref h38, .int 0, .ref h39, .ref h40, .ref h41, .int 0, .int 0, .ref h42, .ref h43, .ref h44, .int 0, .long 0, .long 0, .ref h45, .ref h46, .ref h47, .ref h48, .ref h49, .ref h50, .ref h51, .ref h52, .ref h53, .ref h54, .int 0, .int 0, .ref h55, .ref h56, .ref h57, .ref h58, .ref h59, .ref h60, .ref h61, .ref h62, .ref h63, .int 0, .int 0, .int 0, .int 0, .long 0, .ref h64, .ref h65, .ref h66, .int 0, .int 0, .long 0])), (h4, .inl (cy 4, 6, .inr (.inr (.inr (.inr (fun i => some (gm i))))))), ((gm j), .inl (cy 0, 643, .inl (zfil (upd (kc 0) 0 1) 3 43 (-1)))), (h5, .inl (cy 0, 3, .inl (kc 0)))]) (fun _ => rfl) (fun qs1 H locs hT => ?_)
  refine lv_istore (pc := 1554) (lv' := [(5, .int 1), (0, .ref b), (1, .ref h0), (2, .ref h3), (3, .ref h6), (4, .int 0)]) hx hb dL_law_1554 hl (by decide) rfl (fun ls hl => ?_)
  refine lv_aload_n (pc := 1556) hx hb dL_law_1556 rfl (lv_at hl 3 rfl) ?_
  refine lv_aload_n (pc := 1557) hx hb dL_law_1557 rfl (lv_at hl 1 rfl) ?_
  refine lv_iload (pc := 1558) hx hb dL_law_1558 (lv_at hl 5 rfl) ?_
  refine lv_iconst (pc := 1560) (v := 1) hx hb dL_law_1560 (by decide) ?_
  refine z_iadd (pc := 1561) (v := 1) hx hb dL_law_1561 (by decide) ?_
  refine z_sld (pc := 1562) (v := (nI j)) hx hb hX hbl hbA hT 1 rfl (by decide) hs1 dL_law_1562 ?_
  refine lv_aload_n (pc := 1563) hx hb dL_law_1563 rfl (lv_at hl 1 rfl) ?_
  refine lv_iload (pc := 1564) hx hb dL_law_1564 (lv_at hl 5 rfl) ?_
  refine lv_iconst (pc := 1566) (v := 2) hx hb dL_law_1566 (by decide) ?_
  refine z_iadd (pc := 1567) (v := 2) hx hb dL_law_1567 (by decide) ?_
  refine z_sld (pc := 1568) (v := (xs 2)) hx hb hX hbl hbA hT 2 rfl (by decide) rfl dL_law_1568 ?_
  refine z_cVI (pc := 1569) hx hb hml hown hts hK hA hT lkV_RL_164 (k754_X12_merged l G cy h3 h4 h5 h26 h27 h28 h29 h30 h31 h32 h33 h34 h35 h36 h37 h38 h39 h40 h41 h42 h43 h44 h45 h46 h47 h48 h49 h50 h51 h52 h53 h54 h55 h56 h57 h58 h59 h60 h61 h62 h63 h64 h65 h66 (xs 2) j (gm) (by omega) (by omega) hneg) [0, 1, 2, 3] [] rfl rfl rfl rfl rfl 0 rfl rfl (by decide) rfl hl.1 rfl (Nat.le_of_ble_eq_true rfl) dL_law_1569 ⟨Nat.le_of_ble_eq_true rfl, Nat.le_of_ble_eq_true rfl⟩ (fun _ => [(h3, .inr (12, [.int 1, .ref h5, .int 0, .int 0, .int 0, .int (-1), .int 0, .int 0, .ref h26, .ref h4, .ref h27, .ref h28, .int 0, .ref h29, .ref h30, .int 0, .ref h31, .ref h32, .ref h33, .ref h34, .ref h35, .int 0, .ref h36, .ref h37, .ref h38, .int 0, .ref h39, .ref h40, .ref h41, .int 0, .int 0, .ref h42, .ref h43, .ref h44, .int 0, .long 0, .long 0, .ref h45, .ref h46, .ref h47, .ref h48, .ref h49, .ref h50, .ref h51, .ref h52, .ref h53, .ref h54, .int 0, .int 0, .ref h55, .ref h56, .ref h57, .ref h58, .ref h59, .ref h60, .ref h61, .ref h62, .ref h63, .int 0, .int 0, .int 0, .int 0, .long 0, .ref h64, .ref h65, .ref h66, .int 0, .int 0, .long 0]))]) (fun _ => rfl) (fun qs2 H locs hT => ?_)
  refine lv_istore (pc := 1572) (lv' := [(6, .int 0), (5, .int 1), (0, .ref b), (1, .ref h0), (2, .ref h3), (3, .ref h6), (4, .int 0)]) hx hb dL_law_1572 hl (by decide) rfl (fun ls hl => ?_)
  refine lv_aload_n (pc := 1574) hx hb dL_law_1574 rfl (lv_at hl 4 rfl) ?_
  refine z_cVI (pc := 1575) hx hb hml hown hts hK hA hT lkV_RL_96 (k1051_X12_thrown l G cy h3 h5 h26 h4 h27 h28 h29 h30 h31 h32 h33 h34 h35 h36 h37 h38 h39 h40 h41 h42 h43 h44 h45 h46 h47 h48 h49 h50 h51 h52 h53 h54 h55 h56 h57 h58 h59 h60 h61 h62 h63 h64 h65 h66) [0] [] rfl rfl rfl rfl rfl 0 rfl rfl (by decide) rfl hl.1 rfl (Nat.le_of_ble_eq_true rfl) dL_law_1575 ⟨Nat.le_of_ble_eq_true rfl, Nat.le_of_ble_eq_true rfl⟩ (fun _ => [(h3, .inr (12, [.int 1, .ref h5, .int 0, .int 0, .int 0, .int (-1), .int 0, .int 0, .ref h26, .ref h4, .ref h27, .ref h28, .int 0, .ref h29, .ref h30, .int 0, .ref h31, .ref h32, .ref h33, .ref h34, .ref h35, .int 0, .ref h36, .ref h37, .ref h38, .int 0, .ref h39, .ref h40, .ref h41, .int 0, .int 0, .ref h42, .ref h43, .ref h44, .int 0, .long 0, .long 0, .ref h45, .ref h46, .ref h47, .ref h48, .ref h49, .ref h50, .ref h51, .ref h52, .ref h53, .ref h54, .int 0, .int 0, .ref h55, .ref h56, .ref h57, .ref h58, .ref h59, .ref h60, .ref h61, .ref h62, .ref h63, .int 0, .int 0, .int 0, .int 0, .long 0, .ref h64, .ref h65, .ref h66, .int 0, .int 0, .long 0]))]) (fun _ => rfl) (fun qs3 H locs hT => ?_)
  refine lv_iload (pc := 1578) hx hb dL_law_1578 (lv_at hl 1 rfl) ?_
  refine zb_icmp_eq_t (pc := 1580) (tgt := 1585) hx hb dL_law_1580 (by decide) (by decide) ?_
  refine lv_iload (pc := 1585) hx hb dL_law_1585 (lv_at hl 1 rfl) ?_
  refine zb_if_ne_t (pc := 1587) (tgt := 1602) hx hb dL_law_1587 (by decide) (by decide) ?_
  refine lv_goto (pc := 1602) (tgt := 1719) hx hb dL_law_1602 (by decide) ?_
  exact q_end hx hb hr hlk hX hbl hT (lv_sub hl [2, 6] rfl) (Nat.le_of_ble_eq_true rfl) (Nat.le_of_ble_eq_true rfl)
set_option maxHeartbeats 4000000 in
set_option maxRecDepth 100000 in
theorem q_merged_1_big {p : Program} {l : Launch} {e : Env} {s : State} {m : MethodId} {below : List Frame} {meth : Method} {c : Code} {H : Heap} {locs : List Loc} {ls : Array Slot} {G : va_G} {cy : Nat → ClassId} {b : Nat} {xs : Nat → Int32} (C : zC l G cy p s m meth c b 6 xs) (h0 h1 h2 h3 h4 h5 h6 h7 h8 h9 h10 h11 h12 h13 h14 h15 h16 h17 h18 h19 h20 h21 h22 h23 h24 h25 h26 h27 h28 h29 h30 h31 h32 h33 h34 h35 h36 h37 h38 h39 h40 h41 h42 h43 h44 h45 h46 h47 h48 h49 h50 h51 h52 h53 h54 h55 h56 h57 h58 h59 h60 h61 h62 h63 h64 h65 h66 : Nat) (gx : Nat → Nat) (gm : Nat → Nat) (j : Nat) (hloj : 0 ≤ j) (hhij : j < 6) (hs1 : xs 1 = (nI j)) (hb1 : ¬ ((xs 2) : Int32) < 0) (hb2 : ¬ ((xs 2) : Int32) < 1) (hb3 : (0 : Int32) < (xs 2)) (hT : zT G (fun q => s.heap.size ≤ q) s.heap H locs [(h0, .inr (11, [.ref h1, .ref h7, .ref h8, .ref h9, .ref h10, .ref h11, .ref h12, .ref h13, .ref h14, .ref h15, .ref h2, .int (-1), .int (-1), .int (-1), .int (-1)])), (h1, .inl (cy 3, 6, .inr (.inr (.inr (.inr (fun i => some (gx i))))))), ((gx j), .inr (3, [.int 1, .int 0, .int 0, .int 0, .ref h16, .ref h17, .ref h18, .ref h19, .ref h20, .ref h21, .ref h22, .ref h23, .ref h24, .ref h25])), (h2, .inl (cy 0, 3, .inl (kc 0))), (h3, .inr (12, [.int 0, .ref h5, .int 0, .int 0, .int 0, .int (-1), .int 0, .int 0, .ref h26, .ref h4, .ref h27, .ref h28, .int 0, .ref h29, .ref h30, .int 0, .ref h31, .ref h32, .ref h33, .ref h34, .ref h35, .int 0, .ref h36, .ref h37, .ref h38, .int 0, .ref h39, .ref h40, .ref h41, .int 0, .int 0, .ref h42, .ref h43, .ref h44, .int 0, .long 0, .long 0, .ref h45, .ref h46, .ref h47, .ref h48, .ref h49, .ref h50, .ref h51, .ref h52, .ref h53, .ref h54, .int 0, .int 0, .ref h55, .ref h56, .ref h57, .ref h58, .ref h59, .ref h60, .ref h61, .ref h62, .ref h63, .int 0, .int 0, .int 0, .int 0, .long 0, .ref h64, .ref h65, .ref h66, .int 0, .int 0, .long 0])), (h4, .inl (cy 4, 6, .inr (.inr (.inr (.inr (fun i => some (gm i))))))), ((gm j), .inl (cy 0, 643, .inl (zfil (upd (kc 0) 0 1) 3 43 (-1)))), (h5, .inl (cy 0, 3, .inl (kc 0)))]) (hl : lv_has ls 8 [(0, .ref b), (1, .ref h0), (2, .ref h3), (3, .ref h6), (4, .int 0)]) : W p l e (zR 1000 600002 7302232) s m #[Value.ref b] below meth c H locs 476 284354 (lw_Z below #[Value.ref b] s) (F0 m 1537 ls []) := by
  obtain ⟨hl0, hx, hb, hr, hml, hown, hts, hX, hbl, hlk, hK, hE, q1, v1, q2, v2, hS⟩ := C
  have hA : ∀ q : Nat, s.heap.size ≤ q → (fun q => s.heap.size ≤ q) q := fun _ h => h
  have hbA : ¬ (fun q => s.heap.size ≤ q) b := Nat.not_le.mpr hbl
  refine lv_aload_n (pc := 1537) hx hb dL_law_1537 rfl (lv_at hl 1 rfl) ?_
  refine lv_aload_n (pc := 1538) hx hb dL_law_1538 rfl (lv_at hl 0 rfl) ?_
  refine lv_iload (pc := 1539) hx hb dL_law_1539 (lv_at hl 4 rfl) ?_
  refine lv_iconst (pc := 1541) (v := 1) hx hb dL_law_1541 (by decide) ?_
  refine z_iadd (pc := 1542) (v := 1) hx hb dL_law_1542 (by decide) ?_
  refine z_sld (pc := 1543) (v := (nI j)) hx hb hX hbl hbA hT 1 rfl (by decide) hs1 dL_law_1543 ?_
  refine lv_aload_n (pc := 1544) hx hb dL_law_1544 rfl (lv_at hl 0 rfl) ?_
  refine lv_iload (pc := 1545) hx hb dL_law_1545 (lv_at hl 4 rfl) ?_
  refine lv_iconst (pc := 1547) (v := 2) hx hb dL_law_1547 (by decide) ?_
  refine z_iadd (pc := 1548) (v := 2) hx hb dL_law_1548 (by decide) ?_
  refine z_sld (pc := 1549) (v := (xs 2)) hx hb hX hbl hbA hT 2 rfl (by decide) rfl dL_law_1549 ?_
  refine lv_aload_n (pc := 1550) hx hb dL_law_1550 rfl (lv_at hl 3 rfl) ?_
  refine z_eHI (pc := 1551) zE_ok hE hx hb hml hown hts hK hA hT lkH_RL_162 ((k899_L_merged l G cy hl0 h0 h1 h2 h6 h7 h8 h9 h10 h11 h12 h13 h14 h15 h16 h17 h18 h19 h20 h21 h22 h23 h24 h25 (xs 2) j (gx) (by omega) (by omega) hb1 hb2).e) [0, 1, 2, 3] [4, 5, 6, 7] rfl rfl rfl rfl rfl (by decide) rfl hl.1 rfl (Nat.le_of_ble_eq_true rfl) dL_law_1551 ⟨Nat.le_of_ble_eq_true rfl, Nat.le_of_ble_eq_true rfl⟩ (fun _ => [(h3, .inr (12, [.int 0, .ref h5, .int 0, .int 0, .int 0, .int (-1), .int 0, .int 0, .ref h26, .ref h4, .ref h27, .ref h28, .int 0, .ref h29, .ref h30, .int 0, .ref h31, .ref h32, .ref h33, .ref h34, .ref h35, .int 0, .ref h36, .ref h37, .ref h38, .int 0, .ref h39, .ref h40, .ref h41, .int 0, .int 0, .ref h42, .ref h43, .ref h44, .int 0, .long 0, .long 0, .ref h45, .ref h46, .ref h47, .ref h48, .ref h49, .ref h50, .ref h51, .ref h52, .ref h53, .ref h54, .int 0, .int 0, .ref h55, .ref h56, .ref h57, .ref h58, .ref h59, .ref h60, .ref h61, .ref h62, .ref h63, .int 0, .int 0, .int 0, .int 0, .long 0, .ref h64, .ref h65, .ref h66, .int 0, .int 0, .long 0])), (h4, .inl (cy 4, 6, .inr (.inr (.inr (.inr (fun i => some (gm i))))))), ((gm j), .inl (cy 0, 643, .inl (zfil (upd (kc 0) 0 1) 3 43 (-1)))), (h5, .inl (cy 0, 3, .inl (kc 0)))]) (fun _ => rfl) (fun qs1 H locs hT => ?_)
  refine lv_istore (pc := 1554) (lv' := [(5, .int 1), (0, .ref b), (1, .ref h0), (2, .ref h3), (3, .ref h6), (4, .int 0)]) hx hb dL_law_1554 hl (by decide) rfl (fun ls hl => ?_)
  refine lv_aload_n (pc := 1556) hx hb dL_law_1556 rfl (lv_at hl 3 rfl) ?_
  refine lv_aload_n (pc := 1557) hx hb dL_law_1557 rfl (lv_at hl 1 rfl) ?_
  refine lv_iload (pc := 1558) hx hb dL_law_1558 (lv_at hl 5 rfl) ?_
  refine lv_iconst (pc := 1560) (v := 1) hx hb dL_law_1560 (by decide) ?_
  refine z_iadd (pc := 1561) (v := 1) hx hb dL_law_1561 (by decide) ?_
  refine z_sld (pc := 1562) (v := (nI j)) hx hb hX hbl hbA hT 1 rfl (by decide) hs1 dL_law_1562 ?_
  refine lv_aload_n (pc := 1563) hx hb dL_law_1563 rfl (lv_at hl 1 rfl) ?_
  refine lv_iload (pc := 1564) hx hb dL_law_1564 (lv_at hl 5 rfl) ?_
  refine lv_iconst (pc := 1566) (v := 2) hx hb dL_law_1566 (by decide) ?_
  refine z_iadd (pc := 1567) (v := 2) hx hb dL_law_1567 (by decide) ?_
  refine z_sld (pc := 1568) (v := (xs 2)) hx hb hX hbl hbA hT 2 rfl (by decide) rfl dL_law_1568 ?_
  refine z_cVI (pc := 1569) hx hb hml hown hts hK hA hT lkV_RL_164 (k755_X12_merged l G cy h3 h4 h5 h26 h27 h28 h29 h30 h31 h32 h33 h34 h35 h36 h37 h38 h39 h40 h41 h42 h43 h44 h45 h46 h47 h48 h49 h50 h51 h52 h53 h54 h55 h56 h57 h58 h59 h60 h61 h62 h63 h64 h65 h66 (xs 2) j (gm) (by omega) (by omega) hb1 hb3) [0, 1, 2, 3] [] rfl rfl rfl rfl rfl 0 rfl rfl (by decide) rfl hl.1 rfl (Nat.le_of_ble_eq_true rfl) dL_law_1569 ⟨Nat.le_of_ble_eq_true rfl, Nat.le_of_ble_eq_true rfl⟩ (fun _ => [(h3, .inr (12, [.int 1, .ref h5, .int 0, .int 0, .int 0, .int (-1), .int 0, .int 0, .ref h26, .ref h4, .ref h27, .ref h28, .int 0, .ref h29, .ref h30, .int 0, .ref h31, .ref h32, .ref h33, .ref h34, .ref h35, .int 0, .ref h36, .ref h37, .ref h38, .int 0, .ref h39, .ref h40, .ref h41, .int 0, .int 0, .ref h42, .ref h43, .ref h44, .int 0, .long 0, .long 0, .ref h45, .ref h46, .ref h47, .ref h48, .ref h49, .ref h50, .ref h51, .ref h52, .ref h53, .ref h54, .int 0, .int 0, .ref h55, .ref h56, .ref h57, .ref h58, .ref h59, .ref h60, .ref h61, .ref h62, .ref h63, .int 0, .int 0, .int 0, .int 0, .long 0, .ref h64, .ref h65, .ref h66, .int 0, .int 0, .long 0]))]) (fun _ => rfl) (fun qs2 H locs hT => ?_)
  refine lv_istore (pc := 1572) (lv' := [(6, .int 0), (5, .int 1), (0, .ref b), (1, .ref h0), (2, .ref h3), (3, .ref h6), (4, .int 0)]) hx hb dL_law_1572 hl (by decide) rfl (fun ls hl => ?_)
  refine lv_aload_n (pc := 1574) hx hb dL_law_1574 rfl (lv_at hl 4 rfl) ?_
  refine z_cVI (pc := 1575) hx hb hml hown hts hK hA hT lkV_RL_96 (k1051_X12_thrown l G cy h3 h5 h26 h4 h27 h28 h29 h30 h31 h32 h33 h34 h35 h36 h37 h38 h39 h40 h41 h42 h43 h44 h45 h46 h47 h48 h49 h50 h51 h52 h53 h54 h55 h56 h57 h58 h59 h60 h61 h62 h63 h64 h65 h66) [0] [] rfl rfl rfl rfl rfl 0 rfl rfl (by decide) rfl hl.1 rfl (Nat.le_of_ble_eq_true rfl) dL_law_1575 ⟨Nat.le_of_ble_eq_true rfl, Nat.le_of_ble_eq_true rfl⟩ (fun _ => [(h3, .inr (12, [.int 1, .ref h5, .int 0, .int 0, .int 0, .int (-1), .int 0, .int 0, .ref h26, .ref h4, .ref h27, .ref h28, .int 0, .ref h29, .ref h30, .int 0, .ref h31, .ref h32, .ref h33, .ref h34, .ref h35, .int 0, .ref h36, .ref h37, .ref h38, .int 0, .ref h39, .ref h40, .ref h41, .int 0, .int 0, .ref h42, .ref h43, .ref h44, .int 0, .long 0, .long 0, .ref h45, .ref h46, .ref h47, .ref h48, .ref h49, .ref h50, .ref h51, .ref h52, .ref h53, .ref h54, .int 0, .int 0, .ref h55, .ref h56, .ref h57, .ref h58, .ref h59, .ref h60, .ref h61, .ref h62, .ref h63, .int 0, .int 0, .int 0, .int 0, .long 0, .ref h64, .ref h65, .ref h66, .int 0, .int 0, .long 0]))]) (fun _ => rfl) (fun qs3 H locs hT => ?_)
  refine lv_iload (pc := 1578) hx hb dL_law_1578 (lv_at hl 1 rfl) ?_
  refine zb_icmp_eq_t (pc := 1580) (tgt := 1585) hx hb dL_law_1580 (by decide) (by decide) ?_
  refine lv_iload (pc := 1585) hx hb dL_law_1585 (lv_at hl 1 rfl) ?_
  refine zb_if_ne_t (pc := 1587) (tgt := 1602) hx hb dL_law_1587 (by decide) (by decide) ?_
  refine lv_goto (pc := 1602) (tgt := 1719) hx hb dL_law_1602 (by decide) ?_
  exact q_end hx hb hr hlk hX hbl hT (lv_sub hl [2, 6] rfl) (Nat.le_of_ble_eq_true rfl) (Nat.le_of_ble_eq_true rfl)
set_option maxHeartbeats 4000000 in
set_option maxRecDepth 100000 in
theorem q_alike_0_neg {p : Program} {l : Launch} {e : Env} {s : State} {m : MethodId} {below : List Frame} {meth : Method} {c : Code} {H : Heap} {locs : List Loc} {ls : Array Slot} {G : va_G} {cy : Nat → ClassId} {b : Nat} {xs : Nat → Int32} (C : zC l G cy p s m meth c b 6 xs) (h0 h1 h2 h3 h4 h5 h6 h7 h8 h9 h10 h11 h12 h13 h14 h15 h16 h17 h18 h19 h20 h21 h22 h23 h24 h25 h26 h27 h28 h29 h30 h31 h32 h33 h34 h35 h36 h37 h38 h39 h40 h41 h42 h43 h44 h45 h46 h47 h48 h49 h50 h51 h52 h53 h54 h55 h56 : Nat) (hneg : ((xs 1) : Int32) < 0) (hT : zT G (fun q => s.heap.size ≤ q) s.heap H locs [(h0, .inr (11, [.ref h5, .ref h6, .ref h7, .ref h8, .ref h9, .ref h10, .ref h11, .ref h12, .ref h13, .ref h14, .ref h1, .int (-1), .int (-1), .int (-1), .int (-1)])), (h1, .inl (cy 0, 3, .inl (kc 0))), (h2, .inr (12, [.int 0, .ref h3, .int 0, .int 0, .int 0, .int (-1), .int 0, .int 0, .ref h15, .ref h16, .ref h17, .ref h18, .int 0, .ref h19, .ref h20, .int 0, .ref h21, .ref h22, .ref h23, .ref h24, .ref h25, .int 0, .ref h26, .ref h27, .ref h28, .int 0, .ref h29, .ref h30, .ref h31, .int 0, .int 0, .ref h32, .ref h33, .ref h34, .int 0, .long 0, .long 0, .ref h35, .ref h36, .ref h37, .ref h38, .ref h39, .ref h40, .ref h41, .ref h42, .ref h43, .ref h44, .int 0, .int 0, .ref h45, .ref h46, .ref h47, .ref h48, .ref h49, .ref h50, .ref h51, .ref h52, .ref h53, .int 0, .int 0, .int 0, .int 0, .long 0, .ref h54, .ref h55, .ref h56, .int 0, .int 0, .long 0])), (h3, .inl (cy 0, 3, .inl (kc 0)))]) (hl : lv_has ls 8 [(0, .ref b), (1, .ref h0), (2, .ref h2), (3, .ref h4), (4, .int 0)]) : W p l e (zR 1000 600002 7302232) s m #[Value.ref b] below meth c H locs 476 284354 (lw_Z below #[Value.ref b] s) (F0 m 1605 ls []) := by
  obtain ⟨hl0, hx, hb, hr, hml, hown, hts, hX, hbl, hlk, hK, hE, q1, v1, q2, v2, hS⟩ := C
  have hA : ∀ q : Nat, s.heap.size ≤ q → (fun q => s.heap.size ≤ q) q := fun _ h => h
  have hbA : ¬ (fun q => s.heap.size ≤ q) b := Nat.not_le.mpr hbl
  refine lv_aload_n (pc := 1605) hx hb dL_law_1605 rfl (lv_at hl 1 rfl) ?_
  refine lv_aload_n (pc := 1606) hx hb dL_law_1606 rfl (lv_at hl 0 rfl) ?_
  refine lv_iload (pc := 1607) hx hb dL_law_1607 (lv_at hl 4 rfl) ?_
  refine lv_iconst (pc := 1609) (v := 1) hx hb dL_law_1609 (by decide) ?_
  refine z_iadd (pc := 1610) (v := 1) hx hb dL_law_1610 (by decide) ?_
  refine z_sld (pc := 1611) (v := (xs 1)) hx hb hX hbl hbA hT 1 rfl (by decide) rfl dL_law_1611 ?_
  refine lv_aload_n (pc := 1612) hx hb dL_law_1612 rfl (lv_at hl 0 rfl) ?_
  refine lv_iload (pc := 1613) hx hb dL_law_1613 (lv_at hl 4 rfl) ?_
  refine lv_iconst (pc := 1615) (v := 2) hx hb dL_law_1615 (by decide) ?_
  refine z_iadd (pc := 1616) (v := 2) hx hb dL_law_1616 (by decide) ?_
  refine z_sld (pc := 1617) (v := (xs 2)) hx hb hX hbl hbA hT 2 rfl (by decide) rfl dL_law_1617 ?_
  refine lv_aload_n (pc := 1618) hx hb dL_law_1618 rfl (lv_at hl 3 rfl) ?_
  refine z_eHI (pc := 1619) zE_ok hE hx hb hml hown hts hK hA hT lkH_RL_165 ((k900_L_alike l G cy hl0 h0 h1 h4 h5 h6 h7 h8 h9 h10 h11 h12 h13 h14 (xs 1) (xs 2) hneg).e) [0, 1] [2, 3] rfl rfl rfl rfl rfl (by decide) rfl hl.1 rfl (Nat.le_of_ble_eq_true rfl) dL_law_1619 ⟨Nat.le_of_ble_eq_true rfl, Nat.le_of_ble_eq_true rfl⟩ (fun _ => [(h2, .inr (12, [.int 0, .ref h3, .int 0, .int 0, .int 0, .int (-1), .int 0, .int 0, .ref h15, .ref h16, .ref h17, .ref h18, .int 0, .ref h19, .ref h20, .int 0, .ref h21, .ref h22, .ref h23, .ref h24, .ref h25, .int 0, .ref h26, .ref h27, .ref h28, .int 0, .ref h29, .ref h30, .ref h31, .int 0, .int 0, .ref h32, .ref h33, .ref h34, .int 0, .long 0, .long 0, .ref h35, .ref h36, .ref h37, .ref h38, .ref h39, .ref h40, .ref h41, .ref h42, .ref h43, .ref h44, .int 0, .int 0, .ref h45, .ref h46, .ref h47, .ref h48, .ref h49, .ref h50, .ref h51, .ref h52, .ref h53, .int 0, .int 0, .int 0, .int 0, .long 0, .ref h54, .ref h55, .ref h56, .int 0, .int 0, .long 0])), (h3, .inl (cy 0, 3, .inl (kc 0)))]) (fun _ => rfl) (fun qs1 H locs hT => ?_)
  refine lv_istore (pc := 1622) (lv' := [(5, .int 1), (0, .ref b), (1, .ref h0), (2, .ref h2), (3, .ref h4), (4, .int 0)]) hx hb dL_law_1622 hl (by decide) rfl (fun ls hl => ?_)
  refine lv_aload_n (pc := 1624) hx hb dL_law_1624 rfl (lv_at hl 3 rfl) ?_
  refine lv_aload_n (pc := 1625) hx hb dL_law_1625 rfl (lv_at hl 1 rfl) ?_
  refine lv_iload (pc := 1626) hx hb dL_law_1626 (lv_at hl 5 rfl) ?_
  refine lv_iconst (pc := 1628) (v := 1) hx hb dL_law_1628 (by decide) ?_
  refine z_iadd (pc := 1629) (v := 1) hx hb dL_law_1629 (by decide) ?_
  refine z_sld (pc := 1630) (v := (xs 1)) hx hb hX hbl hbA hT 1 rfl (by decide) rfl dL_law_1630 ?_
  refine lv_aload_n (pc := 1631) hx hb dL_law_1631 rfl (lv_at hl 1 rfl) ?_
  refine lv_iload (pc := 1632) hx hb dL_law_1632 (lv_at hl 5 rfl) ?_
  refine lv_iconst (pc := 1634) (v := 2) hx hb dL_law_1634 (by decide) ?_
  refine z_iadd (pc := 1635) (v := 2) hx hb dL_law_1635 (by decide) ?_
  refine z_sld (pc := 1636) (v := (xs 2)) hx hb hX hbl hbA hT 2 rfl (by decide) rfl dL_law_1636 ?_
  refine z_cVI (pc := 1637) hx hb hml hown hts hK hA hT lkV_RL_167 (k756_X12_alike l G cy h2 h3 h15 h16 h17 h18 h19 h20 h21 h22 h23 h24 h25 h26 h27 h28 h29 h30 h31 h32 h33 h34 h35 h36 h37 h38 h39 h40 h41 h42 h43 h44 h45 h46 h47 h48 h49 h50 h51 h52 h53 h54 h55 h56 (xs 1) (xs 2) hneg) [0, 1] [] rfl rfl rfl rfl rfl 0 rfl rfl (by decide) rfl hl.1 rfl (Nat.le_of_ble_eq_true rfl) dL_law_1637 ⟨Nat.le_of_ble_eq_true rfl, Nat.le_of_ble_eq_true rfl⟩ (fun _ => [(h2, .inr (12, [.int 1, .ref h3, .int 0, .int 0, .int 0, .int (-1), .int 0, .int 0, .ref h15, .ref h16, .ref h17, .ref h18, .int 0, .ref h19, .ref h20, .int 0, .ref h21, .ref h22, .ref h23, .ref h24, .ref h25, .int 0, .ref h26, .ref h27, .ref h28, .int 0, .ref h29, .ref h30, .ref h31, .int 0, .int 0, .ref h32, .ref h33, .ref h34, .int 0, .long 0, .long 0, .ref h35, .ref h36, .ref h37, .ref h38, .ref h39, .ref h40, .ref h41, .ref h42, .ref h43, .ref h44, .int 0, .int 0, .ref h45, .ref h46, .ref h47, .ref h48, .ref h49, .ref h50, .ref h51, .ref h52, .ref h53, .int 0, .int 0, .int 0, .int 0, .long 0, .ref h54, .ref h55, .ref h56, .int 0, .int 0, .long 0]))]) (fun _ => rfl) (fun qs2 H locs hT => ?_)
  refine lv_istore (pc := 1640) (lv' := [(6, .int 0), (5, .int 1), (0, .ref b), (1, .ref h0), (2, .ref h2), (3, .ref h4), (4, .int 0)]) hx hb dL_law_1640 hl (by decide) rfl (fun ls hl => ?_)
  refine lv_aload_n (pc := 1642) hx hb dL_law_1642 rfl (lv_at hl 4 rfl) ?_
  refine z_cVI (pc := 1643) hx hb hml hown hts hK hA hT lkV_RL_96 (k1051_X12_thrown l G cy h2 h3 h15 h16 h17 h18 h19 h20 h21 h22 h23 h24 h25 h26 h27 h28 h29 h30 h31 h32 h33 h34 h35 h36 h37 h38 h39 h40 h41 h42 h43 h44 h45 h46 h47 h48 h49 h50 h51 h52 h53 h54 h55 h56) [0] [] rfl rfl rfl rfl rfl 0 rfl rfl (by decide) rfl hl.1 rfl (Nat.le_of_ble_eq_true rfl) dL_law_1643 ⟨Nat.le_of_ble_eq_true rfl, Nat.le_of_ble_eq_true rfl⟩ (fun _ => [(h2, .inr (12, [.int 1, .ref h3, .int 0, .int 0, .int 0, .int (-1), .int 0, .int 0, .ref h15, .ref h16, .ref h17, .ref h18, .int 0, .ref h19, .ref h20, .int 0, .ref h21, .ref h22, .ref h23, .ref h24, .ref h25, .int 0, .ref h26, .ref h27, .ref h28, .int 0, .ref h29, .ref h30, .ref h31, .int 0, .int 0, .ref h32, .ref h33, .ref h34, .int 0, .long 0, .long 0, .ref h35, .ref h36, .ref h37, .ref h38, .ref h39, .ref h40, .ref h41, .ref h42, .ref h43, .ref h44, .int 0, .int 0, .ref h45, .ref h46, .ref h47, .ref h48, .ref h49, .ref h50, .ref h51, .ref h52, .ref h53, .int 0, .int 0, .int 0, .int 0, .long 0, .ref h54, .ref h55, .ref h56, .int 0, .int 0, .long 0]))]) (fun _ => rfl) (fun qs3 H locs hT => ?_)
  refine lv_iload (pc := 1646) hx hb dL_law_1646 (lv_at hl 1 rfl) ?_
  refine zb_icmp_eq_t (pc := 1648) (tgt := 1653) hx hb dL_law_1648 (by decide) (by decide) ?_
  refine lv_iload (pc := 1653) hx hb dL_law_1653 (lv_at hl 1 rfl) ?_
  refine zb_if_ne_t (pc := 1655) (tgt := 1677) hx hb dL_law_1655 (by decide) (by decide) ?_
  refine lv_goto (pc := 1677) (tgt := 1719) hx hb dL_law_1677 (by decide) ?_
  exact q_end hx hb hr hlk hX hbl hT (lv_sub hl [2, 6] rfl) (Nat.le_of_ble_eq_true rfl) (Nat.le_of_ble_eq_true rfl)
set_option maxHeartbeats 4000000 in
set_option maxRecDepth 100000 in
theorem q_alike_0_big {p : Program} {l : Launch} {e : Env} {s : State} {m : MethodId} {below : List Frame} {meth : Method} {c : Code} {H : Heap} {locs : List Loc} {ls : Array Slot} {G : va_G} {cy : Nat → ClassId} {b : Nat} {xs : Nat → Int32} (C : zC l G cy p s m meth c b 6 xs) (h0 h1 h2 h3 h4 h5 h6 h7 h8 h9 h10 h11 h12 h13 h14 h15 h16 h17 h18 h19 h20 h21 h22 h23 h24 h25 h26 h27 h28 h29 h30 h31 h32 h33 h34 h35 h36 h37 h38 h39 h40 h41 h42 h43 h44 h45 h46 h47 h48 h49 h50 h51 h52 h53 h54 h55 h56 : Nat) (hb1 : ¬ ((xs 1) : Int32) < 0) (hb2 : ¬ ((xs 1) : Int32) < 6) (hb3 : (5 : Int32) < (xs 1)) (hT : zT G (fun q => s.heap.size ≤ q) s.heap H locs [(h0, .inr (11, [.ref h5, .ref h6, .ref h7, .ref h8, .ref h9, .ref h10, .ref h11, .ref h12, .ref h13, .ref h14, .ref h1, .int (-1), .int (-1), .int (-1), .int (-1)])), (h1, .inl (cy 0, 3, .inl (kc 0))), (h2, .inr (12, [.int 0, .ref h3, .int 0, .int 0, .int 0, .int (-1), .int 0, .int 0, .ref h15, .ref h16, .ref h17, .ref h18, .int 0, .ref h19, .ref h20, .int 0, .ref h21, .ref h22, .ref h23, .ref h24, .ref h25, .int 0, .ref h26, .ref h27, .ref h28, .int 0, .ref h29, .ref h30, .ref h31, .int 0, .int 0, .ref h32, .ref h33, .ref h34, .int 0, .long 0, .long 0, .ref h35, .ref h36, .ref h37, .ref h38, .ref h39, .ref h40, .ref h41, .ref h42, .ref h43, .ref h44, .int 0, .int 0, .ref h45, .ref h46, .ref h47, .ref h48, .ref h49, .ref h50, .ref h51, .ref h52, .ref h53, .int 0, .int 0, .int 0, .int 0, .long 0, .ref h54, .ref h55, .ref h56, .int 0, .int 0, .long 0])), (h3, .inl (cy 0, 3, .inl (kc 0)))]) (hl : lv_has ls 8 [(0, .ref b), (1, .ref h0), (2, .ref h2), (3, .ref h4), (4, .int 0)]) : W p l e (zR 1000 600002 7302232) s m #[Value.ref b] below meth c H locs 476 284354 (lw_Z below #[Value.ref b] s) (F0 m 1605 ls []) := by
  obtain ⟨hl0, hx, hb, hr, hml, hown, hts, hX, hbl, hlk, hK, hE, q1, v1, q2, v2, hS⟩ := C
  have hA : ∀ q : Nat, s.heap.size ≤ q → (fun q => s.heap.size ≤ q) q := fun _ h => h
  have hbA : ¬ (fun q => s.heap.size ≤ q) b := Nat.not_le.mpr hbl
  refine lv_aload_n (pc := 1605) hx hb dL_law_1605 rfl (lv_at hl 1 rfl) ?_
  refine lv_aload_n (pc := 1606) hx hb dL_law_1606 rfl (lv_at hl 0 rfl) ?_
  refine lv_iload (pc := 1607) hx hb dL_law_1607 (lv_at hl 4 rfl) ?_
  refine lv_iconst (pc := 1609) (v := 1) hx hb dL_law_1609 (by decide) ?_
  refine z_iadd (pc := 1610) (v := 1) hx hb dL_law_1610 (by decide) ?_
  refine z_sld (pc := 1611) (v := (xs 1)) hx hb hX hbl hbA hT 1 rfl (by decide) rfl dL_law_1611 ?_
  refine lv_aload_n (pc := 1612) hx hb dL_law_1612 rfl (lv_at hl 0 rfl) ?_
  refine lv_iload (pc := 1613) hx hb dL_law_1613 (lv_at hl 4 rfl) ?_
  refine lv_iconst (pc := 1615) (v := 2) hx hb dL_law_1615 (by decide) ?_
  refine z_iadd (pc := 1616) (v := 2) hx hb dL_law_1616 (by decide) ?_
  refine z_sld (pc := 1617) (v := (xs 2)) hx hb hX hbl hbA hT 2 rfl (by decide) rfl dL_law_1617 ?_
  refine lv_aload_n (pc := 1618) hx hb dL_law_1618 rfl (lv_at hl 3 rfl) ?_
  refine z_eHI (pc := 1619) zE_ok hE hx hb hml hown hts hK hA hT lkH_RL_165 ((k901_L_alike l G cy hl0 h0 h1 h4 h5 h6 h7 h8 h9 h10 h11 h12 h13 h14 (xs 1) (xs 2) hb1 hb2).e) [0, 1] [2, 3] rfl rfl rfl rfl rfl (by decide) rfl hl.1 rfl (Nat.le_of_ble_eq_true rfl) dL_law_1619 ⟨Nat.le_of_ble_eq_true rfl, Nat.le_of_ble_eq_true rfl⟩ (fun _ => [(h2, .inr (12, [.int 0, .ref h3, .int 0, .int 0, .int 0, .int (-1), .int 0, .int 0, .ref h15, .ref h16, .ref h17, .ref h18, .int 0, .ref h19, .ref h20, .int 0, .ref h21, .ref h22, .ref h23, .ref h24, .ref h25, .int 0, .ref h26, .ref h27, .ref h28, .int 0, .ref h29, .ref h30, .ref h31, .int 0, .int 0, .ref h32, .ref h33, .ref h34, .int 0, .long 0, .long 0, .ref h35, .ref h36, .ref h37, .ref h38, .ref h39, .ref h40, .ref h41, .ref h42, .ref h43, .ref h44, .int 0, .int 0, .ref h45, .ref h46, .ref h47, .ref h48, .ref h49, .ref h50, .ref h51, .ref h52, .ref h53, .int 0, .int 0, .int 0, .int 0, .long 0, .ref h54, .ref h55, .ref h56, .int 0, .int 0, .long 0])), (h3, .inl (cy 0, 3, .inl (kc 0)))]) (fun _ => rfl) (fun qs1 H locs hT => ?_)
  refine lv_istore (pc := 1622) (lv' := [(5, .int 1), (0, .ref b), (1, .ref h0), (2, .ref h2), (3, .ref h4), (4, .int 0)]) hx hb dL_law_1622 hl (by decide) rfl (fun ls hl => ?_)
  refine lv_aload_n (pc := 1624) hx hb dL_law_1624 rfl (lv_at hl 3 rfl) ?_
  refine lv_aload_n (pc := 1625) hx hb dL_law_1625 rfl (lv_at hl 1 rfl) ?_
  refine lv_iload (pc := 1626) hx hb dL_law_1626 (lv_at hl 5 rfl) ?_
  refine lv_iconst (pc := 1628) (v := 1) hx hb dL_law_1628 (by decide) ?_
  refine z_iadd (pc := 1629) (v := 1) hx hb dL_law_1629 (by decide) ?_
  refine z_sld (pc := 1630) (v := (xs 1)) hx hb hX hbl hbA hT 1 rfl (by decide) rfl dL_law_1630 ?_
  refine lv_aload_n (pc := 1631) hx hb dL_law_1631 rfl (lv_at hl 1 rfl) ?_
  refine lv_iload (pc := 1632) hx hb dL_law_1632 (lv_at hl 5 rfl) ?_
  refine lv_iconst (pc := 1634) (v := 2) hx hb dL_law_1634 (by decide) ?_
  refine z_iadd (pc := 1635) (v := 2) hx hb dL_law_1635 (by decide) ?_
  refine z_sld (pc := 1636) (v := (xs 2)) hx hb hX hbl hbA hT 2 rfl (by decide) rfl dL_law_1636 ?_
  refine z_cVI (pc := 1637) hx hb hml hown hts hK hA hT lkV_RL_167 (k757_X12_alike l G cy h2 h3 h15 h16 h17 h18 h19 h20 h21 h22 h23 h24 h25 h26 h27 h28 h29 h30 h31 h32 h33 h34 h35 h36 h37 h38 h39 h40 h41 h42 h43 h44 h45 h46 h47 h48 h49 h50 h51 h52 h53 h54 h55 h56 (xs 1) (xs 2) hb1 hb3) [0, 1] [] rfl rfl rfl rfl rfl 0 rfl rfl (by decide) rfl hl.1 rfl (Nat.le_of_ble_eq_true rfl) dL_law_1637 ⟨Nat.le_of_ble_eq_true rfl, Nat.le_of_ble_eq_true rfl⟩ (fun _ => [(h2, .inr (12, [.int 1, .ref h3, .int 0, .int 0, .int 0, .int (-1), .int 0, .int 0, .ref h15, .ref h16, .ref h17, .ref h18, .int 0, .ref h19, .ref h20, .int 0, .ref h21, .ref h22, .ref h23, .ref h24, .ref h25, .int 0, .ref h26, .ref h27, .ref h28, .int 0, .ref h29, .ref h30, .ref h31, .int 0, .int 0, .ref h32, .ref h33, .ref h34, .int 0, .long 0, .long 0, .ref h35, .ref h36, .ref h37, .ref h38, .ref h39, .ref h40, .ref h41, .ref h42, .ref h43, .ref h44, .int 0, .int 0, .ref h45, .ref h46, .ref h47, .ref h48, .ref h49, .ref h50, .ref h51, .ref h52, .ref h53, .int 0, .int 0, .int 0, .int 0, .long 0, .ref h54, .ref h55, .ref h56, .int 0, .int 0, .long 0]))]) (fun _ => rfl) (fun qs2 H locs hT => ?_)
  refine lv_istore (pc := 1640) (lv' := [(6, .int 0), (5, .int 1), (0, .ref b), (1, .ref h0), (2, .ref h2), (3, .ref h4), (4, .int 0)]) hx hb dL_law_1640 hl (by decide) rfl (fun ls hl => ?_)
  refine lv_aload_n (pc := 1642) hx hb dL_law_1642 rfl (lv_at hl 4 rfl) ?_
  refine z_cVI (pc := 1643) hx hb hml hown hts hK hA hT lkV_RL_96 (k1051_X12_thrown l G cy h2 h3 h15 h16 h17 h18 h19 h20 h21 h22 h23 h24 h25 h26 h27 h28 h29 h30 h31 h32 h33 h34 h35 h36 h37 h38 h39 h40 h41 h42 h43 h44 h45 h46 h47 h48 h49 h50 h51 h52 h53 h54 h55 h56) [0] [] rfl rfl rfl rfl rfl 0 rfl rfl (by decide) rfl hl.1 rfl (Nat.le_of_ble_eq_true rfl) dL_law_1643 ⟨Nat.le_of_ble_eq_true rfl, Nat.le_of_ble_eq_true rfl⟩ (fun _ => [(h2, .inr (12, [.int 1, .ref h3, .int 0, .int 0, .int 0, .int (-1), .int 0, .int 0, .ref h15, .ref h16, .ref h17, .ref h18, .int 0, .ref h19, .ref h20, .int 0, .ref h21, .ref h22, .ref h23, .ref h24, .ref h25, .int 0, .ref h26, .ref h27, .ref h28, .int 0, .ref h29, .ref h30, .ref h31, .int 0, .int 0, .ref h32, .ref h33, .ref h34, .int 0, .long 0, .long 0, .ref h35, .ref h36, .ref h37, .ref h38, .ref h39, .ref h40, .ref h41, .ref h42, .ref h43, .ref h44, .int 0, .int 0, .ref h45, .ref h46, .ref h47, .ref h48, .ref h49, .ref h50, .ref h51, .ref h52, .ref h53, .int 0, .int 0, .int 0, .int 0, .long 0, .ref h54, .ref h55, .ref h56, .int 0, .int 0, .long 0]))]) (fun _ => rfl) (fun qs3 H locs hT => ?_)
  refine lv_iload (pc := 1646) hx hb dL_law_1646 (lv_at hl 1 rfl) ?_
  refine zb_icmp_eq_t (pc := 1648) (tgt := 1653) hx hb dL_law_1648 (by decide) (by decide) ?_
  refine lv_iload (pc := 1653) hx hb dL_law_1653 (lv_at hl 1 rfl) ?_
  refine zb_if_ne_t (pc := 1655) (tgt := 1677) hx hb dL_law_1655 (by decide) (by decide) ?_
  refine lv_goto (pc := 1677) (tgt := 1719) hx hb dL_law_1677 (by decide) ?_
  exact q_end hx hb hr hlk hX hbl hT (lv_sub hl [2, 6] rfl) (Nat.le_of_ble_eq_true rfl) (Nat.le_of_ble_eq_true rfl)
set_option maxHeartbeats 4000000 in
set_option maxRecDepth 100000 in
theorem q_alike_1_neg {p : Program} {l : Launch} {e : Env} {s : State} {m : MethodId} {below : List Frame} {meth : Method} {c : Code} {H : Heap} {locs : List Loc} {ls : Array Slot} {G : va_G} {cy : Nat → ClassId} {b : Nat} {xs : Nat → Int32} (C : zC l G cy p s m meth c b 6 xs) (h0 h1 h2 h3 h4 h5 h6 h7 h8 h9 h10 h11 h12 h13 h14 h15 h16 h17 h18 h19 h20 h21 h22 h23 h24 h25 h26 h27 h28 h29 h30 h31 h32 h33 h34 h35 h36 h37 h38 h39 h40 h41 h42 h43 h44 h45 h46 h47 h48 h49 h50 h51 h52 h53 h54 h55 h56 : Nat) (j : Nat) (hloj : 0 ≤ j) (hhij : j < 6) (hs1 : xs 1 = (nI j)) (hneg : ((xs 2) : Int32) < 0) (hT : zT G (fun q => s.heap.size ≤ q) s.heap H locs [(h0, .inr (11, [.ref h5, .ref h6, .ref h7, .ref h8, .ref h9, .ref h10, .ref h11, .ref h12, .ref h13, .ref h14, .ref h1, .int (-1), .int (-1), .int (-1), .int (-1)])), (h1, .inl (cy 0, 3, .inl (kc 0))), (h2, .inr (12, [.int 0, .ref h3, .int 0, .int 0, .int 0, .int (-1), .int 0, .int 0, .ref h15, .ref h16, .ref h17, .ref h18, .int 0, .ref h19, .ref h20, .int 0, .ref h21, .ref h22, .ref h23, .ref h24, .ref h25, .int 0, .ref h26, .ref h27, .ref h28, .int 0, .ref h29, .ref h30, .ref h31, .int 0, .int 0, .ref h32, .ref h33, .ref h34, .int 0, .long 0, .long 0, .ref h35, .ref h36, .ref h37, .ref h38, .ref h39, .ref h40, .ref h41, .ref h42, .ref h43, .ref h44, .int 0, .int 0, .ref h45, .ref h46, .ref h47, .ref h48, .ref h49, .ref h50, .ref h51, .ref h52, .ref h53, .int 0, .int 0, .int 0, .int 0, .long 0, .ref h54, .ref h55, .ref h56, .int 0, .int 0, .long 0])), (h3, .inl (cy 0, 3, .inl (kc 0)))]) (hl : lv_has ls 8 [(0, .ref b), (1, .ref h0), (2, .ref h2), (3, .ref h4), (4, .int 0)]) : W p l e (zR 1000 600002 7302232) s m #[Value.ref b] below meth c H locs 476 284354 (lw_Z below #[Value.ref b] s) (F0 m 1605 ls []) := by
  obtain ⟨hl0, hx, hb, hr, hml, hown, hts, hX, hbl, hlk, hK, hE, q1, v1, q2, v2, hS⟩ := C
  have hA : ∀ q : Nat, s.heap.size ≤ q → (fun q => s.heap.size ≤ q) q := fun _ h => h
  have hbA : ¬ (fun q => s.heap.size ≤ q) b := Nat.not_le.mpr hbl
  refine lv_aload_n (pc := 1605) hx hb dL_law_1605 rfl (lv_at hl 1 rfl) ?_
  refine lv_aload_n (pc := 1606) hx hb dL_law_1606 rfl (lv_at hl 0 rfl) ?_
  refine lv_iload (pc := 1607) hx hb dL_law_1607 (lv_at hl 4 rfl) ?_
  refine lv_iconst (pc := 1609) (v := 1) hx hb dL_law_1609 (by decide) ?_
  refine z_iadd (pc := 1610) (v := 1) hx hb dL_law_1610 (by decide) ?_
  refine z_sld (pc := 1611) (v := (nI j)) hx hb hX hbl hbA hT 1 rfl (by decide) hs1 dL_law_1611 ?_
  refine lv_aload_n (pc := 1612) hx hb dL_law_1612 rfl (lv_at hl 0 rfl) ?_
  refine lv_iload (pc := 1613) hx hb dL_law_1613 (lv_at hl 4 rfl) ?_
  refine lv_iconst (pc := 1615) (v := 2) hx hb dL_law_1615 (by decide) ?_
  refine z_iadd (pc := 1616) (v := 2) hx hb dL_law_1616 (by decide) ?_
  refine z_sld (pc := 1617) (v := (xs 2)) hx hb hX hbl hbA hT 2 rfl (by decide) rfl dL_law_1617 ?_
  refine lv_aload_n (pc := 1618) hx hb dL_law_1618 rfl (lv_at hl 3 rfl) ?_
  refine z_eHI (pc := 1619) zE_ok hE hx hb hml hown hts hK hA hT lkH_RL_165 ((k902_L_alike l G cy hl0 h0 h1 h4 h5 h6 h7 h8 h9 h10 h11 h12 h13 h14 (xs 2) j (by omega) (by omega) hneg).e) [0, 1] [2, 3] rfl rfl rfl rfl rfl (by decide) rfl hl.1 rfl (Nat.le_of_ble_eq_true rfl) dL_law_1619 ⟨Nat.le_of_ble_eq_true rfl, Nat.le_of_ble_eq_true rfl⟩ (fun _ => [(h2, .inr (12, [.int 0, .ref h3, .int 0, .int 0, .int 0, .int (-1), .int 0, .int 0, .ref h15, .ref h16, .ref h17, .ref h18, .int 0, .ref h19, .ref h20, .int 0, .ref h21, .ref h22, .ref h23, .ref h24, .ref h25, .int 0, .ref h26, .ref h27, .ref h28, .int 0, .ref h29, .ref h30, .ref h31, .int 0, .int 0, .ref h32, .ref h33, .ref h34, .int 0, .long 0, .long 0, .ref h35, .ref h36, .ref h37, .ref h38, .ref h39, .ref h40, .ref h41, .ref h42, .ref h43, .ref h44, .int 0, .int 0, .ref h45, .ref h46, .ref h47, .ref h48, .ref h49, .ref h50, .ref h51, .ref h52, .ref h53, .int 0, .int 0, .int 0, .int 0, .long 0, .ref h54, .ref h55, .ref h56, .int 0, .int 0, .long 0])), (h3, .inl (cy 0, 3, .inl (kc 0)))]) (fun _ => rfl) (fun qs1 H locs hT => ?_)
  refine lv_istore (pc := 1622) (lv' := [(5, .int 1), (0, .ref b), (1, .ref h0), (2, .ref h2), (3, .ref h4), (4, .int 0)]) hx hb dL_law_1622 hl (by decide) rfl (fun ls hl => ?_)
  refine lv_aload_n (pc := 1624) hx hb dL_law_1624 rfl (lv_at hl 3 rfl) ?_
  refine lv_aload_n (pc := 1625) hx hb dL_law_1625 rfl (lv_at hl 1 rfl) ?_
  refine lv_iload (pc := 1626) hx hb dL_law_1626 (lv_at hl 5 rfl) ?_
  refine lv_iconst (pc := 1628) (v := 1) hx hb dL_law_1628 (by decide) ?_
  refine z_iadd (pc := 1629) (v := 1) hx hb dL_law_1629 (by decide) ?_
  refine z_sld (pc := 1630) (v := (nI j)) hx hb hX hbl hbA hT 1 rfl (by decide) hs1 dL_law_1630 ?_
  refine lv_aload_n (pc := 1631) hx hb dL_law_1631 rfl (lv_at hl 1 rfl) ?_
  refine lv_iload (pc := 1632) hx hb dL_law_1632 (lv_at hl 5 rfl) ?_
  refine lv_iconst (pc := 1634) (v := 2) hx hb dL_law_1634 (by decide) ?_
  refine z_iadd (pc := 1635) (v := 2) hx hb dL_law_1635 (by decide) ?_
  refine z_sld (pc := 1636) (v := (xs 2)) hx hb hX hbl hbA hT 2 rfl (by decide) rfl dL_law_1636 ?_
  refine z_cVI (pc := 1637) hx hb hml hown hts hK hA hT lkV_RL_167 (k758_X12_alike l G cy h2 h3 h15 h16 h17 h18 h19 h20 h21 h22 h23 h24 h25 h26 h27 h28 h29 h30 h31 h32 h33 h34 h35 h36 h37 h38 h39 h40 h41 h42 h43 h44 h45 h46 h47 h48 h49 h50 h51 h52 h53 h54 h55 h56 (xs 2) j (by omega) (by omega) hneg) [0, 1] [] rfl rfl rfl rfl rfl 0 rfl rfl (by decide) rfl hl.1 rfl (Nat.le_of_ble_eq_true rfl) dL_law_1637 ⟨Nat.le_of_ble_eq_true rfl, Nat.le_of_ble_eq_true rfl⟩ (fun _ => [(h2, .inr (12, [.int 1, .ref h3, .int 0, .int 0, .int 0, .int (-1), .int 0, .int 0, .ref h15, .ref h16, .ref h17, .ref h18, .int 0, .ref h19, .ref h20, .int 0, .ref h21, .ref h22, .ref h23, .ref h24, .ref h25, .int 0, .ref h26, .ref h27, .ref h28, .int 0, .ref h29, .ref h30, .ref h31, .int 0, .int 0, .ref h32, .ref h33, .ref h34, .int 0, .long 0, .long 0, .ref h35, .ref h36, .ref h37, .ref h38, .ref h39, .ref h40, .ref h41, .ref h42, .ref h43, .ref h44, .int 0, .int 0, .ref h45, .ref h46, .ref h47, .ref h48, .ref h49, .ref h50, .ref h51, .ref h52, .ref h53, .int 0, .int 0, .int 0, .int 0, .long 0, .ref h54, .ref h55, .ref h56, .int 0, .int 0, .long 0]))]) (fun _ => rfl) (fun qs2 H locs hT => ?_)
  refine lv_istore (pc := 1640) (lv' := [(6, .int 0), (5, .int 1), (0, .ref b), (1, .ref h0), (2, .ref h2), (3, .ref h4), (4, .int 0)]) hx hb dL_law_1640 hl (by decide) rfl (fun ls hl => ?_)
  refine lv_aload_n (pc := 1642) hx hb dL_law_1642 rfl (lv_at hl 4 rfl) ?_
  refine z_cVI (pc := 1643) hx hb hml hown hts hK hA hT lkV_RL_96 (k1051_X12_thrown l G cy h2 h3 h15 h16 h17 h18 h19 h20 h21 h22 h23 h24 h25 h26 h27 h28 h29 h30 h31 h32 h33 h34 h35 h36 h37 h38 h39 h40 h41 h42 h43 h44 h45 h46 h47 h48 h49 h50 h51 h52 h53 h54 h55 h56) [0] [] rfl rfl rfl rfl rfl 0 rfl rfl (by decide) rfl hl.1 rfl (Nat.le_of_ble_eq_true rfl) dL_law_1643 ⟨Nat.le_of_ble_eq_true rfl, Nat.le_of_ble_eq_true rfl⟩ (fun _ => [(h2, .inr (12, [.int 1, .ref h3, .int 0, .int 0, .int 0, .int (-1), .int 0, .int 0, .ref h15, .ref h16, .ref h17, .ref h18, .int 0, .ref h19, .ref h20, .int 0, .ref h21, .ref h22, .ref h23, .ref h24, .ref h25, .int 0, .ref h26, .ref h27, .ref h28, .int 0, .ref h29, .ref h30, .ref h31, .int 0, .int 0, .ref h32, .ref h33, .ref h34, .int 0, .long 0, .long 0, .ref h35, .ref h36, .ref h37, .ref h38, .ref h39, .ref h40, .ref h41, .ref h42, .ref h43, .ref h44, .int 0, .int 0, .ref h45, .ref h46, .ref h47, .ref h48, .ref h49, .ref h50, .ref h51, .ref h52, .ref h53, .int 0, .int 0, .int 0, .int 0, .long 0, .ref h54, .ref h55, .ref h56, .int 0, .int 0, .long 0]))]) (fun _ => rfl) (fun qs3 H locs hT => ?_)
  refine lv_iload (pc := 1646) hx hb dL_law_1646 (lv_at hl 1 rfl) ?_
  refine zb_icmp_eq_t (pc := 1648) (tgt := 1653) hx hb dL_law_1648 (by decide) (by decide) ?_
  refine lv_iload (pc := 1653) hx hb dL_law_1653 (lv_at hl 1 rfl) ?_
  refine zb_if_ne_t (pc := 1655) (tgt := 1677) hx hb dL_law_1655 (by decide) (by decide) ?_
  refine lv_goto (pc := 1677) (tgt := 1719) hx hb dL_law_1677 (by decide) ?_
  exact q_end hx hb hr hlk hX hbl hT (lv_sub hl [2, 6] rfl) (Nat.le_of_ble_eq_true rfl) (Nat.le_of_ble_eq_true rfl)
set_option maxHeartbeats 4000000 in
set_option maxRecDepth 100000 in
theorem q_alike_1_big {p : Program} {l : Launch} {e : Env} {s : State} {m : MethodId} {below : List Frame} {meth : Method} {c : Code} {H : Heap} {locs : List Loc} {ls : Array Slot} {G : va_G} {cy : Nat → ClassId} {b : Nat} {xs : Nat → Int32} (C : zC l G cy p s m meth c b 6 xs) (h0 h1 h2 h3 h4 h5 h6 h7 h8 h9 h10 h11 h12 h13 h14 h15 h16 h17 h18 h19 h20 h21 h22 h23 h24 h25 h26 h27 h28 h29 h30 h31 h32 h33 h34 h35 h36 h37 h38 h39 h40 h41 h42 h43 h44 h45 h46 h47 h48 h49 h50 h51 h52 h53 h54 h55 h56 : Nat) (j : Nat) (hloj : 0 ≤ j) (hhij : j < 6) (hs1 : xs 1 = (nI j)) (hb1 : ¬ ((xs 2) : Int32) < 0) (hb2 : ¬ ((xs 2) : Int32) < 6) (hb3 : (5 : Int32) < (xs 2)) (hT : zT G (fun q => s.heap.size ≤ q) s.heap H locs [(h0, .inr (11, [.ref h5, .ref h6, .ref h7, .ref h8, .ref h9, .ref h10, .ref h11, .ref h12, .ref h13, .ref h14, .ref h1, .int (-1), .int (-1), .int (-1), .int (-1)])), (h1, .inl (cy 0, 3, .inl (kc 0))), (h2, .inr (12, [.int 0, .ref h3, .int 0, .int 0, .int 0, .int (-1), .int 0, .int 0, .ref h15, .ref h16, .ref h17, .ref h18, .int 0, .ref h19, .ref h20, .int 0, .ref h21, .ref h22, .ref h23, .ref h24, .ref h25, .int 0, .ref h26, .ref h27, .ref h28, .int 0, .ref h29, .ref h30, .ref h31, .int 0, .int 0, .ref h32, .ref h33, .ref h34, .int 0, .long 0, .long 0, .ref h35, .ref h36, .ref h37, .ref h38, .ref h39, .ref h40, .ref h41, .ref h42, .ref h43, .ref h44, .int 0, .int 0, .ref h45, .ref h46, .ref h47, .ref h48, .ref h49, .ref h50, .ref h51, .ref h52, .ref h53, .int 0, .int 0, .int 0, .int 0, .long 0, .ref h54, .ref h55, .ref h56, .int 0, .int 0, .long 0])), (h3, .inl (cy 0, 3, .inl (kc 0)))]) (hl : lv_has ls 8 [(0, .ref b), (1, .ref h0), (2, .ref h2), (3, .ref h4), (4, .int 0)]) : W p l e (zR 1000 600002 7302232) s m #[Value.ref b] below meth c H locs 476 284354 (lw_Z below #[Value.ref b] s) (F0 m 1605 ls []) := by
  obtain ⟨hl0, hx, hb, hr, hml, hown, hts, hX, hbl, hlk, hK, hE, q1, v1, q2, v2, hS⟩ := C
  have hA : ∀ q : Nat, s.heap.size ≤ q → (fun q => s.heap.size ≤ q) q := fun _ h => h
  have hbA : ¬ (fun q => s.heap.size ≤ q) b := Nat.not_le.mpr hbl
  refine lv_aload_n (pc := 1605) hx hb dL_law_1605 rfl (lv_at hl 1 rfl) ?_
  refine lv_aload_n (pc := 1606) hx hb dL_law_1606 rfl (lv_at hl 0 rfl) ?_
  refine lv_iload (pc := 1607) hx hb dL_law_1607 (lv_at hl 4 rfl) ?_
  refine lv_iconst (pc := 1609) (v := 1) hx hb dL_law_1609 (by decide) ?_
  refine z_iadd (pc := 1610) (v := 1) hx hb dL_law_1610 (by decide) ?_
  refine z_sld (pc := 1611) (v := (nI j)) hx hb hX hbl hbA hT 1 rfl (by decide) hs1 dL_law_1611 ?_
  refine lv_aload_n (pc := 1612) hx hb dL_law_1612 rfl (lv_at hl 0 rfl) ?_
  refine lv_iload (pc := 1613) hx hb dL_law_1613 (lv_at hl 4 rfl) ?_
  refine lv_iconst (pc := 1615) (v := 2) hx hb dL_law_1615 (by decide) ?_
  refine z_iadd (pc := 1616) (v := 2) hx hb dL_law_1616 (by decide) ?_
  refine z_sld (pc := 1617) (v := (xs 2)) hx hb hX hbl hbA hT 2 rfl (by decide) rfl dL_law_1617 ?_
  refine lv_aload_n (pc := 1618) hx hb dL_law_1618 rfl (lv_at hl 3 rfl) ?_
  refine z_eHI (pc := 1619) zE_ok hE hx hb hml hown hts hK hA hT lkH_RL_165 ((k903_L_alike l G cy hl0 h0 h1 h4 h5 h6 h7 h8 h9 h10 h11 h12 h13 h14 (xs 2) j (by omega) (by omega) hb1 hb2).e) [0, 1] [2, 3] rfl rfl rfl rfl rfl (by decide) rfl hl.1 rfl (Nat.le_of_ble_eq_true rfl) dL_law_1619 ⟨Nat.le_of_ble_eq_true rfl, Nat.le_of_ble_eq_true rfl⟩ (fun _ => [(h2, .inr (12, [.int 0, .ref h3, .int 0, .int 0, .int 0, .int (-1), .int 0, .int 0, .ref h15, .ref h16, .ref h17, .ref h18, .int 0, .ref h19, .ref h20, .int 0, .ref h21, .ref h22, .ref h23, .ref h24, .ref h25, .int 0, .ref h26, .ref h27, .ref h28, .int 0, .ref h29, .ref h30, .ref h31, .int 0, .int 0, .ref h32, .ref h33, .ref h34, .int 0, .long 0, .long 0, .ref h35, .ref h36, .ref h37, .ref h38, .ref h39, .ref h40, .ref h41, .ref h42, .ref h43, .ref h44, .int 0, .int 0, .ref h45, .ref h46, .ref h47, .ref h48, .ref h49, .ref h50, .ref h51, .ref h52, .ref h53, .int 0, .int 0, .int 0, .int 0, .long 0, .ref h54, .ref h55, .ref h56, .int 0, .int 0, .long 0])), (h3, .inl (cy 0, 3, .inl (kc 0)))]) (fun _ => rfl) (fun qs1 H locs hT => ?_)
  refine lv_istore (pc := 1622) (lv' := [(5, .int 1), (0, .ref b), (1, .ref h0), (2, .ref h2), (3, .ref h4), (4, .int 0)]) hx hb dL_law_1622 hl (by decide) rfl (fun ls hl => ?_)
  refine lv_aload_n (pc := 1624) hx hb dL_law_1624 rfl (lv_at hl 3 rfl) ?_
  refine lv_aload_n (pc := 1625) hx hb dL_law_1625 rfl (lv_at hl 1 rfl) ?_
  refine lv_iload (pc := 1626) hx hb dL_law_1626 (lv_at hl 5 rfl) ?_
  refine lv_iconst (pc := 1628) (v := 1) hx hb dL_law_1628 (by decide) ?_
  refine z_iadd (pc := 1629) (v := 1) hx hb dL_law_1629 (by decide) ?_
  refine z_sld (pc := 1630) (v := (nI j)) hx hb hX hbl hbA hT 1 rfl (by decide) hs1 dL_law_1630 ?_
  refine lv_aload_n (pc := 1631) hx hb dL_law_1631 rfl (lv_at hl 1 rfl) ?_
  refine lv_iload (pc := 1632) hx hb dL_law_1632 (lv_at hl 5 rfl) ?_
  refine lv_iconst (pc := 1634) (v := 2) hx hb dL_law_1634 (by decide) ?_
  refine z_iadd (pc := 1635) (v := 2) hx hb dL_law_1635 (by decide) ?_
  refine z_sld (pc := 1636) (v := (xs 2)) hx hb hX hbl hbA hT 2 rfl (by decide) rfl dL_law_1636 ?_
  refine z_cVI (pc := 1637) hx hb hml hown hts hK hA hT lkV_RL_167 (k759_X12_alike l G cy h2 h3 h15 h16 h17 h18 h19 h20 h21 h22 h23 h24 h25 h26 h27 h28 h29 h30 h31 h32 h33 h34 h35 h36 h37 h38 h39 h40 h41 h42 h43 h44 h45 h46 h47 h48 h49 h50 h51 h52 h53 h54 h55 h56 (xs 2) j (by omega) (by omega) hb1 hb3) [0, 1] [] rfl rfl rfl rfl rfl 0 rfl rfl (by decide) rfl hl.1 rfl (Nat.le_of_ble_eq_true rfl) dL_law_1637 ⟨Nat.le_of_ble_eq_true rfl, Nat.le_of_ble_eq_true rfl⟩ (fun _ => [(h2, .inr (12, [.int 1, .ref h3, .int 0, .int 0, .int 0, .int (-1), .int 0, .int 0, .ref h15, .ref h16, .ref h17, .ref h18, .int 0, .ref h19, .ref h20, .int 0, .ref h21, .ref h22, .ref h23, .ref h24, .ref h25, .int 0, .ref h26, .ref h27, .ref h28, .int 0, .ref h29, .ref h30, .ref h31, .int 0, .int 0, .ref h32, .ref h33, .ref h34, .int 0, .long 0, .long 0, .ref h35, .ref h36, .ref h37, .ref h38, .ref h39, .ref h40, .ref h41, .ref h42, .ref h43, .ref h44, .int 0, .int 0, .ref h45, .ref h46, .ref h47, .ref h48, .ref h49, .ref h50, .ref h51, .ref h52, .ref h53, .int 0, .int 0, .int 0, .int 0, .long 0, .ref h54, .ref h55, .ref h56, .int 0, .int 0, .long 0]))]) (fun _ => rfl) (fun qs2 H locs hT => ?_)
  refine lv_istore (pc := 1640) (lv' := [(6, .int 0), (5, .int 1), (0, .ref b), (1, .ref h0), (2, .ref h2), (3, .ref h4), (4, .int 0)]) hx hb dL_law_1640 hl (by decide) rfl (fun ls hl => ?_)
  refine lv_aload_n (pc := 1642) hx hb dL_law_1642 rfl (lv_at hl 4 rfl) ?_
  refine z_cVI (pc := 1643) hx hb hml hown hts hK hA hT lkV_RL_96 (k1051_X12_thrown l G cy h2 h3 h15 h16 h17 h18 h19 h20 h21 h22 h23 h24 h25 h26 h27 h28 h29 h30 h31 h32 h33 h34 h35 h36 h37 h38 h39 h40 h41 h42 h43 h44 h45 h46 h47 h48 h49 h50 h51 h52 h53 h54 h55 h56) [0] [] rfl rfl rfl rfl rfl 0 rfl rfl (by decide) rfl hl.1 rfl (Nat.le_of_ble_eq_true rfl) dL_law_1643 ⟨Nat.le_of_ble_eq_true rfl, Nat.le_of_ble_eq_true rfl⟩ (fun _ => [(h2, .inr (12, [.int 1, .ref h3, .int 0, .int 0, .int 0, .int (-1), .int 0, .int 0, .ref h15, .ref h16, .ref h17, .ref h18, .int 0, .ref h19, .ref h20, .int 0, .ref h21, .ref h22, .ref h23, .ref h24, .ref h25, .int 0, .ref h26, .ref h27, .ref h28, .int 0, .ref h29, .ref h30, .ref h31, .int 0, .int 0, .ref h32, .ref h33, .ref h34, .int 0, .long 0, .long 0, .ref h35, .ref h36, .ref h37, .ref h38, .ref h39, .ref h40, .ref h41, .ref h42, .ref h43, .ref h44, .int 0, .int 0, .ref h45, .ref h46, .ref h47, .ref h48, .ref h49, .ref h50, .ref h51, .ref h52, .ref h53, .int 0, .int 0, .int 0, .int 0, .long 0, .ref h54, .ref h55, .ref h56, .int 0, .int 0, .long 0]))]) (fun _ => rfl) (fun qs3 H locs hT => ?_)
  refine lv_iload (pc := 1646) hx hb dL_law_1646 (lv_at hl 1 rfl) ?_
  refine zb_icmp_eq_t (pc := 1648) (tgt := 1653) hx hb dL_law_1648 (by decide) (by decide) ?_
  refine lv_iload (pc := 1653) hx hb dL_law_1653 (lv_at hl 1 rfl) ?_
  refine zb_if_ne_t (pc := 1655) (tgt := 1677) hx hb dL_law_1655 (by decide) (by decide) ?_
  refine lv_goto (pc := 1677) (tgt := 1719) hx hb dL_law_1677 (by decide) ?_
  exact q_end hx hb hr hlk hX hbl hT (lv_sub hl [2, 6] rfl) (Nat.le_of_ble_eq_true rfl) (Nat.le_of_ble_eq_true rfl)
