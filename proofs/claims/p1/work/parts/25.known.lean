
/-! what the tables and the start say, once for the whole law -/
theorem ztb {w : Cond} (h : w ∈ tables_1) : w ∈ lw_tbl := List.mem_append_right _ h
theorem znest_t : ∀ q ∈ znest, Cond.methodLinkNest q.1 q.2.1 q.2.2.1 q.2.2.2 ∈ tables_1 := by
  have h : znest.all (fun q => decide (Cond.methodLinkNest q.1 q.2.1 q.2.2.1 q.2.2.2 ∈ tables_1)) = true := by decide +kernel
  intro q hq
  exact of_decide_eq_true (List.all_eq_true.mp h q hq)
theorem z_known {s : State} {args : Array Value} (hts : ∀ w ∈ lw_tbl, w.before args s = true) : ∃ (G : va_G) (cy : Nat → ClassId), zK G cy s := by
  have htg : ∀ w ∈ lwg, w.before args s = true := fun w h => hts w (lwg_sub h)
  obtain ⟨c0, iS0, hKn0⟩ := u_known (C := RX0) (T := TX0) (N := 15) (n := 15) htg zin0 (htg _ w2_157)
  obtain ⟨c1, iS1, hKn1⟩ := u_known (C := RX1) (T := TX1) (N := 6) (n := 6) htg zin1 (htg _ w1_193)
  obtain ⟨c2, iS2, hKn2⟩ := u_known (C := RX2) (T := TX2) (N := 4) (n := 4) htg zin2 (htg _ w2_44)
  obtain ⟨c3, iS3, hKn3⟩ := u_known (C := RX3) (T := TX3) (N := 14) (n := 14) htg zin3 (htg _ w1_42)
  obtain ⟨c4, iS4, hKn4⟩ := u_known (C := RX4) (T := TX4) (N := 8) (n := 8) htg zin4 (htg _ w2_12)
  obtain ⟨c5, iS5, hKn5⟩ := u_known (C := RX5) (T := TX5) (N := 5) (n := 5) htg zin5 (htg _ w2_63)
  obtain ⟨c6, iS6, hKn6⟩ := u_known (C := RX6) (T := TX6) (N := 6) (n := 6) htg zin6 (htg _ w1_223)
  obtain ⟨c7, iS7, hKn7⟩ := u_known (C := RX7) (T := TX7) (N := 8) (n := 8) htg zin7 (htg _ w2_91)
  obtain ⟨c8, iS8, hKn8⟩ := u_known (C := RX8) (T := TX8) (N := 8) (n := 8) htg zin8 (htg _ w2_163)
  obtain ⟨c9, iS9, hKn9⟩ := u_known (C := RX9) (T := TX9) (N := 6) (n := 6) htg zin9 (htg _ w1_162)
  obtain ⟨c10, iS10, hKn10⟩ := u_known (C := RX10) (T := TX10) (N := 10) (n := 10) htg zin10 (htg _ w2_85)
  obtain ⟨c11, iS11, hKn11⟩ := u_known (C := RX11) (T := TX11) (N := 15) (n := 15) htg zin11 (htg _ w1_33)
  obtain ⟨c12, iS12, hKn12⟩ := u_known (C := RX12) (T := TX12) (N := 69) (n := 69) htg zin12 (htg _ w7_196)
  obtain ⟨a0, k0, p0, h0, g0, j0⟩ := Cond.arrayClass_spec (type := .int) (htg _ w1_160)
  obtain ⟨a1, k1, p1, h1, g1, j1⟩ := Cond.arrayClass_spec (type := .long) (htg _ w2_9)
  obtain ⟨a2, k2, p2, h2, g2, j2⟩ := Cond.arrayClass_spec (type := .boolean) (htg _ w2_10)
  have o3 : (Cond.arrayOver (.object "CostBench$Machine")).before args s = true := hts _ (ztb (tb1 41 rfl))
  have o4 : (Cond.arrayOver (.array .int)).before args s = true := hts _ (ztb (tb1 200 rfl))
  have o5 : (Cond.arrayOver (.array .long)).before args s = true := hts _ (ztb (tb7 203 rfl))
  obtain ⟨p3, a3, k3, f3, -, g3, j3, h3⟩ := Cond.arrayOver_spec o3
  obtain ⟨p4, a4, k4, f4, g4, j4, h4⟩ := Cond.arrayOver_specA o4
  obtain ⟨p5, a5, k5, f5, g5, j5, h5⟩ := Cond.arrayOver_specA o5
  refine ⟨(fun k => ([c0, c1, c2, c3, c4, c5, c6, c7, c8, c9, c10, c11, c12] : List ClassId).getD k c0, fun k => ([iS0, iS1, iS2, iS3, iS4, iS5, iS6, iS7, iS8, iS9, iS10, iS11, iS12] : List (Nat → Nat)).getD k iS0), fun k => ([a0, a1, a2, a3, a4, a5] : List ClassId).getD k a0, ⟨fun k q hq => ?_, fun k q hq => ?_⟩, fun q hq => va_Nw.of rfl (hts _ (ztb (znest_t q hq))), o3, o4, o5⟩
  · match k, hq with
    | 0, hq => obtain rfl := Option.some.inj hq; exact hKn0
    | 1, hq => obtain rfl := Option.some.inj hq; exact hKn1
    | 2, hq => obtain rfl := Option.some.inj hq; exact hKn2
    | 3, hq => obtain rfl := Option.some.inj hq; exact hKn3
    | 4, hq => obtain rfl := Option.some.inj hq; exact hKn4
    | 5, hq => obtain rfl := Option.some.inj hq; exact hKn5
    | 6, hq => obtain rfl := Option.some.inj hq; exact hKn6
    | 7, hq => obtain rfl := Option.some.inj hq; exact hKn7
    | 8, hq => obtain rfl := Option.some.inj hq; exact hKn8
    | 9, hq => obtain rfl := Option.some.inj hq; exact hKn9
    | 10, hq => obtain rfl := Option.some.inj hq; exact hKn10
    | 11, hq => obtain rfl := Option.some.inj hq; exact hKn11
    | 12, hq => obtain rfl := Option.some.inj hq; exact hKn12
    | k + 13, hq => simp [zcl] at hq
  · match k, hq with
    | 0, hq => obtain rfl := Option.some.inj hq; exact ⟨fun n z => ⟨(fun k h => by cases h), k0, g0, p0, j0⟩, h0⟩
    | 1, hq => obtain rfl := Option.some.inj hq; exact ⟨fun n z => ⟨(fun k h => by cases h), k1, g1, p1, j1⟩, h1⟩
    | 2, hq => obtain rfl := Option.some.inj hq; exact ⟨fun n z => ⟨(fun k h => by cases h), k2, g2, p2, j2⟩, h2⟩
    | 3, hq => obtain rfl := Option.some.inj hq; exact ⟨fun n z => ⟨(fun k h => by cases h), k3, g3, p3, j3⟩, k3, p3, g3, j3, f3, h3⟩
    | 4, hq => obtain rfl := Option.some.inj hq; exact ⟨fun n z => ⟨(fun k h => by cases h), k4, g4, p4, j4⟩, h4⟩
    | 5, hq => obtain rfl := Option.some.inj hq; exact ⟨fun n z => ⟨(fun k h => by cases h), k5, g5, p5, j5⟩, h5⟩
    | k + 6, hq => simp [ztys] at hq
theorem z_strAt {args : Array Value} {s : State} {own tx : String} {k : Nat} (h1 : (Cond.stringRef own k tx).before args s = true) (h2 : (Cond.exactly (.string own k) "java/lang/String").before args s = true) : ∃ sa, vk_R own k tx sa s := by
  obtain ⟨a, c, cA, kA, q1, -⟩ := Cond.exactly_spec (args := args) (first := s) (o := none) (s := s) (idx := []) (t := .string own k) (cls := "java/lang/String") h2
  exact ⟨a, vk_R.of h1 q1⟩
theorem z_knownE {s : State} {b : Nat} {A : Nat → Prop} (hts : ∀ w ∈ lw_tbl, w.before #[Value.ref b] s = true) (hgv : (Jvm.Cond.and given_1 narrow_1).before #[Value.ref b] s = true) (hA : ∀ a : Nat, a < s.heap.size → ¬ A a) : zE A s s.heap := by
  have hs := flat_of_before _ hgv
  refine ⟨⟨vx_Zqof (hts _ (ztb (tb3 144 rfl))) (hts _ (ztb (tb1 15 rfl))) (hs _ (by decide +kernel)) hA, vx_Zqof (hts _ (ztb (tb3 146 rfl))) (hts _ (ztb (tb1 15 rfl))) (hs _ (by decide +kernel)) hA⟩,
    ⟨va_Nw.of rfl (hts _ (ztb (tb3 119 rfl))), va_Nw.of rfl (hts _ (ztb (tb3 191 rfl))), va_Nw.of rfl (hts _ (ztb (tb3 121 rfl))), va_Nw.of rfl (hts _ (ztb (tb3 123 rfl))), va_Nw.of rfl (hts _ (ztb (tb3 125 rfl)))⟩,
    va_Nc.of (args := #[Value.ref b]) (hs _ (by decide +kernel)), z_strAt (args := #[Value.ref b]) (hts _ (ztb (tb3 158 rfl))) (hs _ (by decide +kernel)), z_strAt (args := #[Value.ref b]) (hts _ (ztb (tb3 198 rfl))) (hs _ (by decide +kernel))⟩
theorem z_strW {s : State} {b : Nat} {A : Nat → Prop} {own : String} {k : Nat} (hsr : (Cond.stringRef own k "states").before #[Value.ref b] s = true) (hex : (Cond.exactly (.string own k) "java/lang/String").before #[Value.ref b] s = true) (hco : (Cond.eq (.field (.string own k) "java/lang/String" "coder" "B") (.int 0)).before #[Value.ref b] s = true) (har : (Cond.arrayOf (.field (.string own k) "java/lang/String" "value" "[B") .byte).before #[Value.ref b] s = true) (hle : (Cond.eq (.length (.field (.string own k) "java/lang/String" "value" "[B")) (.int 6)).before #[Value.ref b] s = true)
    (hel : ∀ j : Nat, j < 6 → (Cond.eq (.elem (.field (.string own k) "java/lang/String" "value" "[B") (.int (Int32.ofNat j))) (.int (([115, 116, 97, 116, 101, 115] : List Int32).getD j 0))).before #[Value.ref b] s = true) (hZ : va_Z "java/lang/String" "COMPACT_STRINGS" "Z" (.int 1) A s s.heap) (hF : va_Zq "jdk/internal/util/Preconditions" "SIOOBE_FORMATTER" "Ljava/util/function/BiFunction;" A s s.heap) (hA : ∀ a : Nat, a < s.heap.size → ¬ A a) : ∃ q v, vk_R own k "states" q s ∧ zW q v A s s.heap := by
  have e1 : ∀ i : Nat, i < 1 → i = 0 := fun i hi => by omega
  obtain ⟨adK, adV, h, hev⟩ := vk_Sof (args := #[Value.ref b]) (s := s) (N := 1) (tm := fun _ => .string own k) (len := [6]) (byt := [[115, 116, 97, 116, 101, 115]]) (A := A) (fun i hi => by cases e1 i hi; exact Nat.le_of_ble_eq_true rfl) (fun _ _ => hex) (fun _ _ => hco) (fun _ _ => har) (fun i hi => by cases e1 i hi; exact hle) (fun i hi j hj => by cases e1 i hi; exact hel j hj) (fun i j hi hj hij => absurd ((e1 i hi).trans (e1 j hj).symm) hij) hA
  obtain ⟨g1, g2, g3, g4⟩ := h.1 0 (by omega)
  exact ⟨adK 0, adV 0, vk_R.of hsr (hev 0 (by omega)), g1, g2, g3, g4, hZ, hF⟩
theorem z_knownS {s : State} {b : Nat} {A : Nat → Prop} (hts : ∀ w ∈ lw_tbl, w.before #[Value.ref b] s = true) (hgv : (Jvm.Cond.and given_1 narrow_1).before #[Value.ref b] s = true) (hA : ∀ a : Nat, a < s.heap.size → ¬ A a) : ∃ q1 v1 q2 v2 : Nat, zS q1 v1 q2 v2 A s s.heap := by
  have hs := flat_of_before _ hgv
  have hZ : va_Z "java/lang/String" "COMPACT_STRINGS" "Z" (.int 1) A s s.heap := va_Zof (args := #[Value.ref b]) (hts _ (ztb (tb3 238 rfl))) (hts _ (ztb (tb1 21 rfl))) (va_eqi (hs _ (by decide +kernel))) hA
  have hF : va_Zq "jdk/internal/util/Preconditions" "SIOOBE_FORMATTER" "Ljava/util/function/BiFunction;" A s s.heap := va_Zqof (args := #[Value.ref b]) (hts _ (ztb (tb4 14 rfl))) (hts _ (ztb (tb1 23 rfl))) (hs _ (by decide +kernel)) hA
  obtain ⟨q1, v1, r1, z1⟩ := z_strW (own := "CostBench$Tape") (k := 63) (hts _ (ztb (tb3 224 rfl))) (hs _ (by decide +kernel)) (hs _ (by decide +kernel)) (hs _ (by decide +kernel)) (hs _ (by decide +kernel)) (fun j hj => by rcases zsix_cases hj with rfl | rfl | rfl | rfl | rfl | rfl <;> exact hs _ (by decide +kernel)) hZ hF hA
  obtain ⟨q2, v2, r2, z2⟩ := z_strW (own := "CostBenchModel") (k := 375) (hts _ (ztb (tb9 116 rfl))) (hs _ (by decide +kernel)) (hs _ (by decide +kernel)) (hs _ (by decide +kernel)) (hs _ (by decide +kernel)) (fun j hj => by rcases zsix_cases hj with rfl | rfl | rfl | rfl | rfl | rfl <;> exact hs _ (by decide +kernel)) hZ hF hA
  exact ⟨q1, v1, q2, v2, ⟨r1, r2⟩, z1, z2⟩
