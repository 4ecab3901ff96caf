theorem w3_85 : (Cond.native ⟨"java/lang/System", "arraycopy", "(Ljava/lang/Object;ILjava/lang/Object;II)V"⟩) ∈ lwg := lwg_t (tb3 85 rfl) rfl
theorem w3_84 : (Cond.static ⟨"java/lang/System", "arraycopy", "(Ljava/lang/Object;ILjava/lang/Object;II)V"⟩) ∈ lwg := lwg_t (tb3 84 rfl) rfl
theorem w1_25 : (Cond.initialized "java/lang/System") ∈ lwg := lwg_t (tb1 25 rfl) rfl
theorem w4_207 : (Cond.code ⟨"java/util/Arrays", "rangeCheck", "(III)V"⟩ prog_36_method_30_code (3 : Nat) (Option.none : Option FieldType)) ∈ lwg := lwg_t (tb4 207 rfl) rfl
theorem w1_3 : (Cond.initialized "java/util/Arrays") ∈ lwg := lwg_t (tb1 3 rfl) rfl
theorem w4_205 : (Cond.methodLink "java/util/Arrays" (13 : Nat) ⟨"java/util/Arrays", "rangeCheck", "(III)V"⟩) ∈ lwg := lwg_t (tb4 205 rfl) rfl
theorem w4_206 : (Cond.static ⟨"java/util/Arrays", "rangeCheck", "(III)V"⟩) ∈ lwg := lwg_t (tb4 206 rfl) rfl
theorem lkS_RJ7_13 : zLS "java/util/Arrays" 13 yJ7_rangeCheck_23922 cJ7_rangeCheck_23922 3 none 3 := ⟨w4_205, w4_206, w1_3, w4_207, ⟨by decide +kernel, by decide +kernel, by decide +kernel⟩, by decide⟩
theorem dJ7_fill_53178_0 : decode cJ7_fill_53178 0 = .ok (.iconst 0, 1) := by decide +kernel
theorem dJ7_fill_53178_1 : decode cJ7_fill_53178 1 = .ok (.istore_n 2, 1) := by decide +kernel
theorem dJ7_fill_53178_2 : decode cJ7_fill_53178 2 = .ok (.aload_n 0, 1) := by decide +kernel
theorem dJ7_fill_53178_3 : decode cJ7_fill_53178 3 = .ok (.arraylength, 1) := by decide +kernel
theorem dJ7_fill_53178_4 : decode cJ7_fill_53178 4 = .ok (.istore_n 3, 1) := by decide +kernel
theorem dJ7_fill_53178_5 : decode cJ7_fill_53178 5 = .ok (.iload_n 2, 1) := by decide +kernel
theorem dJ7_fill_53178_6 : decode cJ7_fill_53178 6 = .ok (.iload_n 3, 1) := by decide +kernel
theorem dJ7_fill_53178_7 : decode cJ7_fill_53178 7 = .ok (.if_icmp .ge 13, 3) := by decide +kernel
theorem dJ7_fill_53178_10 : decode cJ7_fill_53178 10 = .ok (.aload_n 0, 1) := by decide +kernel
theorem dJ7_fill_53178_11 : decode cJ7_fill_53178 11 = .ok (.iload_n 2, 1) := by decide +kernel
theorem dJ7_fill_53178_12 : decode cJ7_fill_53178 12 = .ok (.iload_n 1, 1) := by decide +kernel
theorem dJ7_fill_53178_13 : decode cJ7_fill_53178 13 = .ok (.iastore, 1) := by decide +kernel
theorem dJ7_fill_53178_14 : decode cJ7_fill_53178 14 = .ok (.iinc 2 1, 3) := by decide +kernel
theorem dJ7_fill_53178_17 : decode cJ7_fill_53178 17 = .ok (.goto (-12), 3) := by decide +kernel
theorem dJ7_fill_53178_20 : decode cJ7_fill_53178 20 = .ok (.return_, 1) := by decide +kernel
theorem dJ7_fill_d0a16_0 : decode cJ7_fill_d0a16 0 = .ok (.iconst 0, 1) := by decide +kernel
theorem dJ7_fill_d0a16_1 : decode cJ7_fill_d0a16 1 = .ok (.istore_n 3, 1) := by decide +kernel
theorem dJ7_fill_d0a16_2 : decode cJ7_fill_d0a16 2 = .ok (.aload_n 0, 1) := by decide +kernel
theorem dJ7_fill_d0a16_3 : decode cJ7_fill_d0a16 3 = .ok (.arraylength, 1) := by decide +kernel
theorem dJ7_fill_d0a16_4 : decode cJ7_fill_d0a16 4 = .ok (.istore 4, 2) := by decide +kernel
theorem dJ7_fill_d0a16_6 : decode cJ7_fill_d0a16 6 = .ok (.iload_n 3, 1) := by decide +kernel
theorem dJ7_fill_d0a16_7 : decode cJ7_fill_d0a16 7 = .ok (.iload 4, 2) := by decide +kernel
theorem dJ7_fill_d0a16_9 : decode cJ7_fill_d0a16 9 = .ok (.if_icmp .ge 13, 3) := by decide +kernel
theorem dJ7_fill_d0a16_12 : decode cJ7_fill_d0a16 12 = .ok (.aload_n 0, 1) := by decide +kernel
theorem dJ7_fill_d0a16_13 : decode cJ7_fill_d0a16 13 = .ok (.iload_n 3, 1) := by decide +kernel
theorem dJ7_fill_d0a16_14 : decode cJ7_fill_d0a16 14 = .ok (.lload_n 1, 1) := by decide +kernel
theorem dJ7_fill_d0a16_15 : decode cJ7_fill_d0a16 15 = .ok (.lastore, 1) := by decide +kernel
theorem dJ7_fill_d0a16_16 : decode cJ7_fill_d0a16 16 = .ok (.iinc 3 1, 3) := by decide +kernel
theorem dJ7_fill_d0a16_19 : decode cJ7_fill_d0a16 19 = .ok (.goto (-13), 3) := by decide +kernel
theorem dJ7_fill_d0a16_22 : decode cJ7_fill_d0a16 22 = .ok (.return_, 1) := by decide +kernel
theorem dJ7_fill_fda19_0 : decode cJ7_fill_fda19 0 = .ok (.aload_n 0, 1) := by decide +kernel
theorem dJ7_fill_fda19_1 : decode cJ7_fill_fda19 1 = .ok (.arraylength, 1) := by decide +kernel
theorem dJ7_fill_fda19_2 : decode cJ7_fill_fda19 2 = .ok (.iload_n 1, 1) := by decide +kernel
theorem dJ7_fill_fda19_3 : decode cJ7_fill_fda19 3 = .ok (.iload_n 2, 1) := by decide +kernel
theorem dJ7_fill_fda19_4 : decode cJ7_fill_fda19 4 = .ok (.invokestatic 13, 3) := by decide +kernel
theorem dJ7_fill_fda19_7 : decode cJ7_fill_fda19 7 = .ok (.iload_n 1, 1) := by decide +kernel
theorem dJ7_fill_fda19_8 : decode cJ7_fill_fda19 8 = .ok (.istore 4, 2) := by decide +kernel
theorem dJ7_fill_fda19_10 : decode cJ7_fill_fda19 10 = .ok (.iload 4, 2) := by decide +kernel
theorem dJ7_fill_fda19_12 : decode cJ7_fill_fda19 12 = .ok (.iload_n 2, 1) := by decide +kernel
theorem dJ7_fill_fda19_13 : decode cJ7_fill_fda19 13 = .ok (.if_icmp .ge 14, 3) := by decide +kernel
theorem dJ7_fill_fda19_16 : decode cJ7_fill_fda19 16 = .ok (.aload_n 0, 1) := by decide +kernel
theorem dJ7_fill_fda19_17 : decode cJ7_fill_fda19 17 = .ok (.iload 4, 2) := by decide +kernel
theorem dJ7_fill_fda19_19 : decode cJ7_fill_fda19 19 = .ok (.iload_n 3, 1) := by decide +kernel
theorem dJ7_fill_fda19_20 : decode cJ7_fill_fda19 20 = .ok (.iastore, 1) := by decide +kernel
theorem dJ7_fill_fda19_21 : decode cJ7_fill_fda19 21 = .ok (.iinc 4 1, 3) := by decide +kernel
theorem dJ7_fill_fda19_24 : decode cJ7_fill_fda19 24 = .ok (.goto (-14), 3) := by decide +kernel
theorem dJ7_fill_fda19_27 : decode cJ7_fill_fda19 27 = .ok (.return_, 1) := by decide +kernel
theorem dJ7_rangeCheck_23922_0 : decode cJ7_rangeCheck_23922 0 = .ok (.iload_n 1, 1) := by decide +kernel
theorem dJ7_rangeCheck_23922_1 : decode cJ7_rangeCheck_23922 1 = .ok (.iload_n 2, 1) := by decide +kernel
theorem dJ7_rangeCheck_23922_2 : decode cJ7_rangeCheck_23922 2 = .ok (.if_icmp .le 44, 3) := by decide +kernel
theorem dJ7_rangeCheck_23922_46 : decode cJ7_rangeCheck_23922 46 = .ok (.iload_n 1, 1) := by decide +kernel
theorem dJ7_rangeCheck_23922_47 : decode cJ7_rangeCheck_23922 47 = .ok (.ifCond .ge 12, 3) := by decide +kernel
theorem dJ7_rangeCheck_23922_59 : decode cJ7_rangeCheck_23922 59 = .ok (.iload_n 2, 1) := by decide +kernel
theorem dJ7_rangeCheck_23922_60 : decode cJ7_rangeCheck_23922 60 = .ok (.iload_n 0, 1) := by decide +kernel
theorem dJ7_rangeCheck_23922_61 : decode cJ7_rangeCheck_23922 61 = .ok (.if_icmp .le 12, 3) := by decide +kernel
theorem dJ7_rangeCheck_23922_73 : decode cJ7_rangeCheck_23922 73 = .ok (.return_, 1) := by decide +kernel
/-! Arrays.fill -/
def zfil (f : Nat → Int32) (a b : Nat) (v : Int32) : Nat → Int32 := fun j => if a ≤ j ∧ j < b then v else f j
theorem zT.cong1 {G : va_G} {A : Nat → Prop} {H0 H : Heap} {locs : List Loc} {a : Nat} {x x2 : va_E} (hx : va_at G zcl (a, x) H → va_at G zcl (a, x2) H) (h : zT G A H0 H locs [(a, x)]) : zT G A H0 H locs [(a, x2)] := zcong (ws := [(a, x)]) (q0 := 0) hx h
set_option maxHeartbeats 4000000 in
set_option maxRecDepth 100000 in
theorem k_fillI (l : Launch) (G : va_G) (cy : Nat → ClassId) (h0 n : Nat) (v : Int32) (f0 : Nat → Int32) (hn : n < 2147483648) : zV l G cy yJ7_fill_53178 cJ7_fill_53178 4 none 0 0 0 [.ref h0, .int v] [(h0, .inl (cy 0, n, .inl f0))] (fun _ => [(h0, .inl (cy 0, n, .inl (kc v)))]) := by
  refine zM.of (by decide) (Nat.le_of_ble_eq_true rfl) ?_
  intro p e s m args below meth c ls A hx hb hml hown hts hlk hr hin hl hK hA hT
  have hown : s.vm.findClass "java/util/Arrays" = some m.cls := hown
  have hl : lv_has ls 4 [(0, .ref h0), (1, .int v)] := hl
  have loop : ∀ (k i : Nat) (f : Nat → Int32) (H : Heap) (locs : List Loc) (ls : Array Slot), i ≤ n → n - i < k → (∀ j, j < i → f j = v) → zT G A s.heap H locs [(h0, .inl (cy 0, n, .inl f))] → lv_has ls 4 [(2, .int (nI i)), (3, .int (nI n)), (0, .ref h0), (1, .int v)] →
      W p l e (zR 0 0 0) s m args below meth c H locs 0 0 (MQ below (zQV G A (fun _ => [(h0, .inl (cy 0, n, .inl (kc v)))])) args s 0 0 A) (F0 m 5 ls []) := by
    intro k
    induction k with
    | zero => intro i f H locs ls _ h; omega
    | succ k ih =>
      intro i f H locs ls hi hk hf hT hl
      refine lv_iload_n (pc := 5) hx hb dJ7_fill_53178_5 rfl (lv_at hl 0 rfl) ?_
      refine lv_iload_n (pc := 6) hx hb dJ7_fill_53178_6 rfl (lv_at hl 1 rfl) ?_
      refine lv_icmp_ge (pc := 7) (tgt := 20) hx hb dJ7_fill_53178_7 (by decide) (fun c1 => ?_) (fun c1 => ?_)
      · have e : i = n := by
          rcases Nat.lt_or_ge i n with h | h
          · exact absurd c1 (nI_ge h hn)
          · omega
        subst e
        have hT := hT.cong1 (x2 := .inl (cy 0, i, .inl (kc v))) (zatI hf)
        exact z_vret (pc := 20) hx hb hr hlk hT (fun _ _ => 0) [0] rfl rfl (Nat.le_of_ble_eq_true rfl) (Nat.le_of_ble_eq_true rfl) dJ7_fill_53178_20
      · have h : i < n := by
          rcases Nat.lt_or_ge i n with h | h
          · exact h
          · exact absurd (nI_le h (by omega)) c1
        refine lv_aload_n (pc := 10) hx hb dJ7_fill_53178_10 rfl (lv_at hl 2 rfl) ?_
        refine lv_iload_n (pc := 11) hx hb dJ7_fill_53178_11 rfl (lv_at hl 0 rfl) ?_
        refine lv_iload_n (pc := 12) hx hb dJ7_fill_53178_12 rfl (lv_at hl 3 rfl) ?_
        refine z_iast (pc := 13) hx hb hK hT 0 i rfl rfl h hn dJ7_fill_53178_13 (upd f i v) (fun _ _ => rfl) [(h0, .inl (cy 0, n, .inl (upd f i v)))] rfl (fun H locs hT => ?_)
        refine lv_iinc (pc := 14) (v := nI (i + 1)) (lv' := [(2, .int (nI (i + 1))), (3, .int (nI n)), (0, .ref h0), (1, .int v)]) hx hb dJ7_fill_53178_14 hl (k := 0) rfl (nI_1 i) (by decide) rfl (fun ls hl => ?_)
        refine lv_goto (pc := 17) (tgt := 5) hx hb dJ7_fill_53178_17 (by decide) ?_
        exact ih (i + 1) (upd f i v) H locs ls h (by omega) (fun j hj => by
          unfold upd
          split
          · rfl
          · exact hf j (by omega)) hT hl
  refine lv_iconst (pc := 0) (v := nI 0) hx hb dJ7_fill_53178_0 (by decide) ?_
  refine lv_istore_n (pc := 1) (lv' := [(2, .int (nI 0)), (0, .ref h0), (1, .int v)]) hx hb dJ7_fill_53178_1 rfl hl (by decide) rfl (fun ls hl => ?_)
  refine lv_aload_n (pc := 2) hx hb dJ7_fill_53178_2 rfl (lv_at hl 1 rfl) ?_
  refine z_alen (pc := 3) (v := nI n) hx hb hK hT 0 0 rfl rfl rfl dJ7_fill_53178_3 ?_
  refine lv_istore_n (pc := 4) (lv' := [(3, .int (nI n)), (2, .int (nI 0)), (0, .ref h0), (1, .int v)]) hx hb dJ7_fill_53178_4 rfl hl (by decide) rfl (fun ls hl => ?_)
  exact loop (n + 1) 0 f0 _ _ ls (Nat.zero_le n) (by omega) (fun j h => absurd h (Nat.not_lt_zero j)) hT (lv_sub hl [1, 0, 2, 3] rfl)
set_option maxHeartbeats 4000000 in
set_option maxRecDepth 100000 in
theorem k_fillJ (l : Launch) (G : va_G) (cy : Nat → ClassId) (h0 n : Nat) (v : Int64) (f0 : Nat → Int64) (hn : n < 2147483648) : zV l G cy yJ7_fill_d0a16 cJ7_fill_d0a16 5 none 0 0 0 [.ref h0, .long v] [(h0, .inl (cy 1, n, .inr (.inl f0)))] (fun _ => [(h0, .inl (cy 1, n, .inr (.inl (kl v))))]) := by
  refine zM.of (by decide) (Nat.le_of_ble_eq_true rfl) ?_
  intro p e s m args below meth c ls A hx hb hml hown hts hlk hr hin hl hK hA hT
  have hl : lv_has ls 5 [(0, .ref h0), (1, .long v)] := hl
  have loop : ∀ (k i : Nat) (f : Nat → Int64) (H : Heap) (locs : List Loc) (ls : Array Slot), i ≤ n → n - i < k → (∀ j, j < i → f j = v) → zT G A s.heap H locs [(h0, .inl (cy 1, n, .inr (.inl f)))] → lv_has ls 5 [(3, .int (nI i)), (4, .int (nI n)), (0, .ref h0), (1, .long v)] →
      W p l e (zR 0 0 0) s m args below meth c H locs 0 0 (MQ below (zQV G A (fun _ => [(h0, .inl (cy 1, n, .inr (.inl (kl v))))])) args s 0 0 A) (F0 m 6 ls []) := by
    intro k
    induction k with
    | zero => intro i f H locs ls _ h; omega
    | succ k ih =>
      intro i f H locs ls hi hk hf hT hl
      refine lv_iload_n (pc := 6) hx hb dJ7_fill_d0a16_6 rfl (lv_at hl 0 rfl) ?_
      refine lv_iload (pc := 7) hx hb dJ7_fill_d0a16_7 (lv_at hl 1 rfl) ?_
      refine lv_icmp_ge (pc := 9) (tgt := 22) hx hb dJ7_fill_d0a16_9 (by decide) (fun c1 => ?_) (fun c1 => ?_)
      · have e : i = n := by
          rcases Nat.lt_or_ge i n with h | h
          · exact absurd c1 (nI_ge h hn)
          · omega
        subst e
        have hT := hT.cong1 (x2 := .inl (cy 1, i, .inr (.inl (kl v)))) (zatJ hf)
        exact z_vret (pc := 22) hx hb hr hlk hT (fun _ _ => 0) [0] rfl rfl (Nat.le_of_ble_eq_true rfl) (Nat.le_of_ble_eq_true rfl) dJ7_fill_d0a16_22
      · have h : i < n := by
          rcases Nat.lt_or_ge i n with h | h
          · exact h
          · exact absurd (nI_le h (by omega)) c1
        refine lv_aload_n (pc := 12) hx hb dJ7_fill_d0a16_12 rfl (lv_at hl 2 rfl) ?_
        refine lv_iload_n (pc := 13) hx hb dJ7_fill_d0a16_13 rfl (lv_at hl 0 rfl) ?_
        refine lv_lload_n (pc := 14) hx hb dJ7_fill_d0a16_14 rfl (lv_at hl 3 rfl) ?_
        refine z_last (pc := 15) hx hb hK hT 0 i rfl rfl h hn dJ7_fill_d0a16_15 (vp_updL f i v) (fun _ _ => rfl) [(h0, .inl (cy 1, n, .inr (.inl (vp_updL f i v))))] rfl (fun H locs hT => ?_)
        refine lv_iinc (pc := 16) (v := nI (i + 1)) (lv' := [(3, .int (nI (i + 1))), (4, .int (nI n)), (0, .ref h0), (1, .long v)]) hx hb dJ7_fill_d0a16_16 hl (k := 0) rfl (nI_1 i) (by decide) rfl (fun ls hl => ?_)
        refine lv_goto (pc := 19) (tgt := 6) hx hb dJ7_fill_d0a16_19 (by decide) ?_
        exact ih (i + 1) (vp_updL f i v) H locs ls h (by omega) (fun j hj => by
          unfold vp_updL
          split
          · rfl
          · exact hf j (by omega)) hT hl
  refine lv_iconst (pc := 0) (v := nI 0) hx hb dJ7_fill_d0a16_0 (by decide) ?_
  refine lv_istore_n (pc := 1) (lv' := [(3, .int (nI 0)), (0, .ref h0), (1, .long v)]) hx hb dJ7_fill_d0a16_1 rfl hl (by decide) rfl (fun ls hl => ?_)
  refine lv_aload_n (pc := 2) hx hb dJ7_fill_d0a16_2 rfl (lv_at hl 1 rfl) ?_
  refine z_alen (pc := 3) (v := nI n) hx hb hK hT 0 1 rfl rfl rfl dJ7_fill_d0a16_3 ?_
  refine lv_istore (pc := 4) (lv' := [(4, .int (nI n)), (3, .int (nI 0)), (0, .ref h0), (1, .long v)]) hx hb dJ7_fill_d0a16_4 hl (by decide) rfl (fun ls hl => ?_)
  exact loop (n + 1) 0 f0 _ _ ls (Nat.zero_le n) (by omega) (fun j h => absurd h (Nat.not_lt_zero j)) hT (lv_sub hl [1, 0, 2, 3] rfl)
set_option maxHeartbeats 4000000 in
set_option maxRecDepth 100000 in
theorem k_rangeCheck (l : Launch) (G : va_G) (cy : Nat → ClassId) (n a b : Nat) (hn : n < 2147483648) (hab : a ≤ b) (hbn : b ≤ n) : zV l G cy yJ7_rangeCheck_23922 cJ7_rangeCheck_23922 3 none 0 0 0 [.int (nI n), .int (nI a), .int (nI b)] [] (fun _ => []) := by
  refine zM.of (by decide) (Nat.le_of_ble_eq_true rfl) ?_
  intro p e s m args below meth c ls A hx hb hml hown hts hlk hr hin hl hK hA hT
  have hl : lv_has ls 3 [(0, .int (nI n)), (1, .int (nI a)), (2, .int (nI b))] := hl
  refine lv_iload_n (pc := 0) hx hb dJ7_rangeCheck_23922_0 rfl (lv_at hl 1 rfl) ?_
  refine lv_iload_n (pc := 1) hx hb dJ7_rangeCheck_23922_1 rfl (lv_at hl 2 rfl) ?_
  refine zb_icmp_le_t (pc := 2) (tgt := 46) hx hb dJ7_rangeCheck_23922_2 (by decide) (nI_le hab (by omega)) ?_
  refine lv_iload_n (pc := 46) hx hb dJ7_rangeCheck_23922_46 rfl (lv_at hl 1 rfl) ?_
  refine zb_if_ge_t (pc := 47) (tgt := 59) hx hb dJ7_rangeCheck_23922_47 (by decide) (nI_pos' (by omega)) ?_
  refine lv_iload_n (pc := 59) hx hb dJ7_rangeCheck_23922_59 rfl (lv_at hl 2 rfl) ?_
  refine lv_iload_n (pc := 60) hx hb dJ7_rangeCheck_23922_60 rfl (lv_at hl 0 rfl) ?_
  refine zb_icmp_le_t (pc := 61) (tgt := 73) hx hb dJ7_rangeCheck_23922_61 (by decide) (nI_le hbn hn) ?_
  exact z_vret (pc := 73) hx hb hr hlk hT (fun _ _ => 0) [] rfl rfl (Nat.le_of_ble_eq_true rfl) (Nat.le_of_ble_eq_true rfl) dJ7_rangeCheck_23922_73
set_option maxHeartbeats 4000000 in
set_option maxRecDepth 100000 in
theorem k_fillR (l : Launch) (G : va_G) (cy : Nat → ClassId) (h0 n a b : Nat) (v : Int32) (f0 : Nat → Int32) (hn : n < 2147483648) (hab : a ≤ b) (hbn : b ≤ n) : zV l G cy yJ7_fill_fda19 cJ7_fill_fda19 5 none 1 0 0 [.ref h0, .int (nI a), .int (nI b), .int v] [(h0, .inl (cy 0, n, .inl f0))] (fun _ => [(h0, .inl (cy 0, n, .inl (zfil f0 a b v)))]) := by
  refine zM.of (by decide) (Nat.le_of_ble_eq_true rfl) ?_
  intro p e s m args below meth c ls A hx hb hml hown hts hlk hr hin hl hK hA hT
  have hown : s.vm.findClass "java/util/Arrays" = some m.cls := hown
  have hl : lv_has ls 5 [(0, .ref h0), (1, .int (nI a)), (2, .int (nI b)), (3, .int v)] := hl
  have loop : ∀ (k i : Nat) (f : Nat → Int32) (H : Heap) (locs : List Loc) (cells slots : Nat) (ls : Array Slot), cells ≤ 0 → slots ≤ 0 → a ≤ i → i ≤ b → b - i < k → (∀ j, f j = zfil f0 a i v j) → zT G A s.heap H locs [(h0, .inl (cy 0, n, .inl f))] → lv_has ls 5 [(4, .int (nI i)), (0, .ref h0), (1, .int (nI a)), (2, .int (nI b)), (3, .int v)] →
      W p l e (zR 1 0 0) s m args below meth c H locs cells slots (MQ below (zQV G A (fun _ => [(h0, .inl (cy 0, n, .inl (zfil f0 a b v)))])) args s 0 0 A) (F0 m 10 ls []) := by
    intro k
    induction k with
    | zero => intro i f H locs cells slots ls _ _ _ _ h; omega
    | succ k ih =>
      intro i f H locs cells slots ls hc0 hs0 hai hi hk hf hT hl
      refine lv_iload (pc := 10) hx hb dJ7_fill_fda19_10 (lv_at hl 0 rfl) ?_
      refine lv_iload_n (pc := 12) hx hb dJ7_fill_fda19_12 rfl (lv_at hl 3 rfl) ?_
      refine lv_icmp_ge (pc := 13) (tgt := 27) hx hb dJ7_fill_fda19_13 (by decide) (fun c1 => ?_) (fun c1 => ?_)
      · have e : i = b := by
          rcases Nat.lt_or_ge i b with h | h
          · exact absurd c1 (nI_ge h (by omega))
          · omega
        subst e
        have hT := hT.cong1 (x2 := .inl (cy 0, n, .inl (zfil f0 a i v))) (zatI (fun j _ => hf j))
        exact z_vret (pc := 27) hx hb hr hlk hT (fun _ _ => 0) [0] rfl rfl hc0 hs0 dJ7_fill_fda19_27
      · have h : i < b := by
          rcases Nat.lt_or_ge i b with h | h
          · exact h
          · exact absurd (nI_le h (by omega)) c1
        refine lv_aload_n (pc := 16) hx hb dJ7_fill_fda19_16 rfl (lv_at hl 1 rfl) ?_
        refine lv_iload (pc := 17) hx hb dJ7_fill_fda19_17 (lv_at hl 0 rfl) ?_
        refine lv_iload_n (pc := 19) hx hb dJ7_fill_fda19_19 rfl (lv_at hl 4 rfl) ?_
        refine z_iast (pc := 20) hx hb hK hT 0 i rfl rfl (by omega) hn dJ7_fill_fda19_20 (upd f i v) (fun _ _ => rfl) [(h0, .inl (cy 0, n, .inl (upd f i v)))] rfl (fun H locs hT => ?_)
        refine lv_iinc (pc := 21) (v := nI (i + 1)) (lv' := [(4, .int (nI (i + 1))), (0, .ref h0), (1, .int (nI a)), (2, .int (nI b)), (3, .int v)]) hx hb dJ7_fill_fda19_21 hl (k := 0) rfl (nI_1 i) (by decide) rfl (fun ls hl => ?_)
        refine lv_goto (pc := 24) (tgt := 10) hx hb dJ7_fill_fda19_24 (by decide) ?_
        exact ih (i + 1) (upd f i v) H locs cells slots ls hc0 hs0 (by omega) h (by omega) (fun j => by
          have h2 := hf j
          unfold zfil at h2 ⊢
          unfold upd
          by_cases e : j = i
          · subst e
            rw [if_pos rfl, if_pos ⟨hai, Nat.lt_succ_self _⟩]
          · rw [if_neg e, h2]
            by_cases q : a ≤ j ∧ j < i
            · rw [if_pos q, if_pos ⟨q.1, by omega⟩]
            · rw [if_neg q, if_neg (by omega)]) hT hl
  refine lv_aload_n (pc := 0) hx hb dJ7_fill_fda19_0 rfl (lv_at hl 0 rfl) ?_
  refine z_alen (pc := 1) (v := nI n) hx hb hK hT 0 0 rfl rfl rfl dJ7_fill_fda19_1 ?_
  refine lv_iload_n (pc := 2) hx hb dJ7_fill_fda19_2 rfl (lv_at hl 1 rfl) ?_
  refine lv_iload_n (pc := 3) hx hb dJ7_fill_fda19_3 rfl (lv_at hl 2 rfl) ?_
  refine z_cSV (pc := 4) hx hb hml hown hts hK hA hT lkS_RJ7_13 (k_rangeCheck l G cy n a b hn hab hbn) [] [0] rfl rfl rfl rfl rfl (by decide) rfl hl.1 rfl (Nat.le_of_ble_eq_true rfl) dJ7_fill_fda19_4 ⟨Nat.le_of_ble_eq_true rfl, Nat.le_of_ble_eq_true rfl⟩ (fun _ => [(h0, .inl (cy 0, n, .inl f0))]) (fun _ => rfl) (fun qs H locs hT => ?_)
  refine lv_iload_n (pc := 7) hx hb dJ7_fill_fda19_7 rfl (lv_at hl 1 rfl) ?_
  refine lv_istore (pc := 8) (lv' := [(4, .int (nI a)), (0, .ref h0), (1, .int (nI a)), (2, .int (nI b)), (3, .int v)]) hx hb dJ7_fill_fda19_8 hl (by decide) rfl (fun ls hl => ?_)
  exact loop (b + 1) a f0 _ _ _ _ ls (Nat.le_refl _) (Nat.le_refl _) (Nat.le_refl a) hab (by omega) (fun j => by
    unfold zfil
    rw [if_neg (by omega)]) hT hl
/-! System.arraycopy of rows that are known -/
theorem z_cpy0 {α : Type} {f g : Nat → α} {sp dp : Nat} (t : Nat) : va_cpy f g sp dp 0 t = g t := pk_cpy_out (by omega)
theorem z_cpyA {α : Type} {f g : Nat → α} {n : Nat} (t : Nat) (h : t < n) : va_cpy f g 0 0 n t = f t := by
  rw [pk_cpy_in (Nat.zero_le t) (by omega)]
  simp
theorem z_cpy1 {f g : Nat → Int32} {sp dp : Nat} {v : Int32} (hv : f sp = v) (t : Nat) : va_cpy f g sp dp 1 t = upd g dp v t := by
  unfold upd
  by_cases e : t = dp
  · subst e
    rw [if_pos rfl, pk_cpy_in (Nat.le_refl t) (Nat.lt_succ_self t)]
    simp [hv]
  · rw [if_neg e, pk_cpy_out (by omega)]
theorem z_cpys {f g : Nat → Int32} {sp dp : Nat} (hv : f sp = g dp) (t : Nat) : va_cpy f g sp dp 1 t = g t := by
  by_cases e : t = dp
  · subst e
    rw [pk_cpy_in (Nat.le_refl t) (Nat.lt_succ_self t)]
    simp [hv]
  · rw [pk_cpy_out (by omega)]
theorem z_cpy2 {f g : Nat → Int32} {v w : Int32} (h0 : f 0 = v) (h1 : f 1 = w) (t : Nat) : va_cpy f g 0 0 2 t = upd (upd g 0 v) 1 w t := by
  unfold upd
  by_cases e : t = 1
  · subst e
    rw [if_pos rfl, pk_cpy_in (by omega) (by omega)]
    exact h1
  · rw [if_neg e]
    by_cases e : t = 0
    · subst e
      rw [if_pos rfl, pk_cpy_in (by omega) (by omega)]
      exact h0
    · rw [if_neg e, pk_cpy_out (by omega)]
theorem z_cpyw : nativeFrameWords "java/lang/System" "arraycopy" 5 ≤ 100 := by decide +kernel
section ZY
variable {p : Program} {l : Launch} {e : Env} {s : State} {m : MethodId} {args : Array Value} {below : List Frame} {meth : Method} {c : Code} {H H0 : Heap} {locs : List Loc} {cells slots D MC MS : Nat} {Q : State → Prop}
variable {cc : ByteArray} {pc nL : Nat} {ls : Array Slot} {rest : List Value} {G : va_G} {cy : Nat → ClassId} {A : Nat → Prop} {a : Nat} {ws : va_W} {own : String}
theorem z_copyI {idx : Nat} (hx : p.tables.exec = Jvm.exec) (hb : c.code = cc) (hml : c.maxLocals = nL) (hown : s.vm.findClass own = some m.cls) (hts : ∀ w ∈ lwg, w.before args s = true) (w1 : Cond.methodLink own idx arraycopyName ∈ lwg) (hK : zK G cy s) (hT : zT G A H0 H locs ws) (q0 q1 : Nat) {a0 n0 n1 : Nat} {f g : Nat → Int32} {i j k : Int32} (ha0 : ws[q0]? = some (a0, .inl (cy 0, n0, .inl f))) (ha1 : ws[q1]? = some (a, .inl (cy 0, n1, .inl g))) (sp dp n : Nat) (h1 : i = nI sp) (h2 : j = nI dp) (h3 : k = nI n) (hb1 : sp + n ≤ n0) (hb2 : dp + n ≤ n1) (hn0 : n0 < 2147483648) (hn1 : n1 < 2147483648) (f2 : Nat → Int32) (hf : ∀ t, t < n1 → va_cpy f g sp dp n t = f2 t) (hsz : ls.size = nL) (hw8 : (rest.map fun v => v.category).sum ≤ 8) (hdg : decode cc pc = .ok (.invokestatic idx, 3)) (ws2 : va_W) (hw : ws.set q1 (a, .inl (cy 0, n1, .inl f2)) = ws2)
    (kk : ∀ (H1 : Heap) (locs1 : List Loc), zT G A H0 H1 locs1 ws2 → W p l e (zR D MC MS) s m args below meth c H1 locs1 cells slots Q (F0 m (pc + 3) ls rest)) : W p l e (zR D MC MS) s m args below meth c H locs cells slots Q (F0 m pc ls (.int k :: .int j :: .ref a :: .int i :: .ref a0 :: rest)) := by
  subst h1 h2 h3 hw
  have c1 := nI_clamp (n := sp) (by omega)
  have c2 := nI_clamp (n := dp) (by omega)
  have c3 := nI_clamp (n := n) (by omega)
  have h9 := z_cpyw
  refine va_copyi (ty := .int) hx hb (by rw [hml, hsz]) hown (hts _ w1) (hts _ w3_85) (hts _ w3_84) (hts _ w1_25) hK.1 hT.1 hT.2.1 hT.2.2 q0 q1 0 0 ha0 ha1 rfl rfl rfl (nI_pos (by omega)) (nI_pos (by omega)) (nI_pos (by omega)) (by rw [c1, c3]; exact hb1) (by rw [c2, c3]; exact hb2) (fun _ _ => rfl) (by simp only [zR]; omega) (by simp only [zR]; omega) hdg (fun H1 locs1 hP hD hS => kk H1 locs1 ?_)
  rw [c1, c2, c3] at hP hD
  exact zcong (zatI hf) ⟨hP, hD, hS⟩
theorem z_copyJ {idx : Nat} (hx : p.tables.exec = Jvm.exec) (hb : c.code = cc) (hml : c.maxLocals = nL) (hown : s.vm.findClass own = some m.cls) (hts : ∀ w ∈ lwg, w.before args s = true) (w1 : Cond.methodLink own idx arraycopyName ∈ lwg) (hK : zK G cy s) (hT : zT G A H0 H locs ws) (q0 q1 : Nat) {a0 n0 n1 : Nat} {f g : Nat → Int64} {i j k : Int32} (ha0 : ws[q0]? = some (a0, .inl (cy 1, n0, .inr (.inl f)))) (ha1 : ws[q1]? = some (a, .inl (cy 1, n1, .inr (.inl g)))) (sp dp n : Nat) (h1 : i = nI sp) (h2 : j = nI dp) (h3 : k = nI n) (hb1 : sp + n ≤ n0) (hb2 : dp + n ≤ n1) (hn0 : n0 < 2147483648) (hn1 : n1 < 2147483648) (f2 : Nat → Int64) (hf : ∀ t, t < n1 → va_cpy f g sp dp n t = f2 t) (hsz : ls.size = nL) (hw8 : (rest.map fun v => v.category).sum ≤ 8) (hdg : decode cc pc = .ok (.invokestatic idx, 3)) (ws2 : va_W) (hw : ws.set q1 (a, .inl (cy 1, n1, .inr (.inl f2))) = ws2)
    (kk : ∀ (H1 : Heap) (locs1 : List Loc), zT G A H0 H1 locs1 ws2 → W p l e (zR D MC MS) s m args below meth c H1 locs1 cells slots Q (F0 m (pc + 3) ls rest)) : W p l e (zR D MC MS) s m args below meth c H locs cells slots Q (F0 m pc ls (.int k :: .int j :: .ref a :: .int i :: .ref a0 :: rest)) := by
  subst h1 h2 h3 hw
  have c1 := nI_clamp (n := sp) (by omega)
  have c2 := nI_clamp (n := dp) (by omega)
  have c3 := nI_clamp (n := n) (by omega)
  have h9 := z_cpyw
  refine va_copyl (ty := .long) hx hb (by rw [hml, hsz]) hown (hts _ w1) (hts _ w3_85) (hts _ w3_84) (hts _ w1_25) hK.1 hT.1 hT.2.1 hT.2.2 q0 q1 1 1 ha0 ha1 rfl rfl rfl (nI_pos (by omega)) (nI_pos (by omega)) (nI_pos (by omega)) (by rw [c1, c3]; exact hb1) (by rw [c2, c3]; exact hb2) (fun _ _ => rfl) (by simp only [zR]; omega) (by simp only [zR]; omega) hdg (fun H1 locs1 hP hD hS => kk H1 locs1 ?_)
  rw [c1, c2, c3] at hP hD
  exact zcong (zatJ hf) ⟨hP, hD, hS⟩
end ZY
