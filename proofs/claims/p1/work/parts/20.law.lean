theorem w1_32 : (Cond.classLink "CostBenchLaw" (8 : Nat) "CostBench") ∈ lwg := lwg_t (tb1 32 rfl) rfl
theorem w1_33 : (Cond.instantiable "CostBench" (15 : Nat)) ∈ lwg := lwg_t (tb1 33 rfl) rfl
theorem w1_36 : (Cond.code ⟨"CostBench", "<init>", "()V"⟩ prog_1_method_1_code (2 : Nat) (Option.none : Option FieldType)) ∈ lwg := lwg_t (tb1 36 rfl) rfl
theorem w1_34 : (Cond.methodLink "CostBenchLaw" (81 : Nat) ⟨"CostBench", "<init>", "()V"⟩) ∈ lwg := lwg_t (tb1 34 rfl) rfl
theorem w1_35 : (Cond.instanceMethod ⟨"CostBench", "<init>", "()V"⟩) ∈ lwg := lwg_t (tb1 35 rfl) rfl
theorem w7_195 : (Cond.classLink "CostBenchLaw" (82 : Nat) "CostBenchModel") ∈ lwg := lwg_t (tb7 195 rfl) rfl
theorem w7_196 : (Cond.instantiable "CostBenchModel" (69 : Nat)) ∈ lwg := lwg_t (tb7 196 rfl) rfl
theorem w7_199 : (Cond.code ⟨"CostBenchModel", "<init>", "()V"⟩ prog_14_method_1_code (2 : Nat) (Option.none : Option FieldType)) ∈ lwg := lwg_t (tb7 199 rfl) rfl
theorem w7_197 : (Cond.methodLink "CostBenchLaw" (84 : Nat) ⟨"CostBenchModel", "<init>", "()V"⟩) ∈ lwg := lwg_t (tb7 197 rfl) rfl
theorem w7_198 : (Cond.instanceMethod ⟨"CostBenchModel", "<init>", "()V"⟩) ∈ lwg := lwg_t (tb7 198 rfl) rfl
theorem lkI_RL_81 : zLI "CostBenchLaw" 81 yX11_init cX11_init 2 none 0 := ⟨w1_34, w1_35, rfl, w1_1, w1_36, ⟨by decide +kernel, by decide +kernel, by decide +kernel⟩, by decide⟩
theorem lkI_RL_84 : zLI "CostBenchLaw" 84 yX12_init cX12_init 2 none 0 := ⟨w7_197, w7_198, rfl, w1_14, w7_199, ⟨by decide +kernel, by decide +kernel, by decide +kernel⟩, by decide⟩
theorem dL_law_0 : decode code 0 = .ok (.new 8, 3) := by decide +kernel
theorem dL_law_3 : decode code 3 = .ok (.dup, 1) := by decide +kernel
theorem dL_law_4 : decode code 4 = .ok (.invokespecial 81, 3) := by decide +kernel
theorem dL_law_7 : decode code 7 = .ok (.astore_n 1, 1) := by decide +kernel
theorem dL_law_8 : decode code 8 = .ok (.new 82, 3) := by decide +kernel
theorem dL_law_11 : decode code 11 = .ok (.dup, 1) := by decide +kernel
theorem dL_law_12 : decode code 12 = .ok (.invokespecial 84, 3) := by decide +kernel
theorem dL_law_15 : decode code 15 = .ok (.astore_n 2, 1) := by decide +kernel
theorem dL_law_16 : decode code 16 = .ok (.iconst 1, 1) := by decide +kernel
theorem dL_law_17 : decode code 17 = .ok (.newarray .long, 2) := by decide +kernel
theorem dL_law_19 : decode code 19 = .ok (.astore_n 3, 1) := by decide +kernel
theorem dL_law_20 : decode code 20 = .ok (.iconst 0, 1) := by decide +kernel
theorem dL_law_21 : decode code 21 = .ok (.istore 4, 2) := by decide +kernel
theorem dL_law_23 : decode code 23 = .ok (.iload 4, 2) := by decide +kernel
theorem dL_law_25 : decode code 25 = .ok (.aload_n 0, 1) := by decide +kernel
theorem dL_law_26 : decode code 26 = .ok (.arraylength, 1) := by decide +kernel
theorem dL_law_27 : decode code 27 = .ok (.bipush 6, 2) := by decide +kernel
theorem dL_law_29 : decode code 29 = .ok (.isub, 1) := by decide +kernel
theorem dL_law_30 : decode code 30 = .ok (.if_icmp .gt 1695, 3) := by decide +kernel
theorem dL_law_1725 : decode code 1725 = .ok (.iconst 1, 1) := by decide +kernel
theorem dL_law_1726 : decode code 1726 = .ok (.ireturn, 1) := by decide +kernel
theorem dL_law_1719 : decode code 1719 = .ok (.iinc 4 6, 3) := by decide +kernel
theorem dL_law_1722 : decode code 1722 = .ok (.goto (-1699), 3) := by decide +kernel
def R_law : String := "CostBenchLaw"
def lw_P (b : Addr) (xs : List Int32) (args : Array Value) (s : State) : Prop := args = #[.ref b] ∧ s.IntsAt b xs ∧ xs.length ≤ 6 ∧ (Jvm.Cond.and given_1 narrow_1).before args s = true
def lw_Q (_ : Array Value) (s : State) (o : Outcome) (t : State) : Prop := o = .returned (some (.int 1)) ∧ Framed s o t [] 600002 7302232
def lw_Z (below : List Frame) (a : Array Value) (s : State) : State → Prop := fun t => ∃ o, t.status = .running ∧ Ended t below o ∧ lw_Q a s o t
/-- the law's own end, with 1 on the stack, nothing written that was there before, its room as the claim has it -/
theorem lw_ret {p : Program} {l : Launch} {e : Env} {s : State} {m : MethodId} {below : List Frame} {meth : Method} {c : Code} {b : Nat} (hx : p.tables.exec = Jvm.exec) (hb : c.code = code) (hr : meth.sig.returnType = ret) (hlocks : meth.locks = false) {pc : Nat} {H : Heap} {ls : Array Slot} (hdg : decode code pc = .ok (.ireturn, 1)) : W p l e room_1 s m #[Value.ref b] below meth c H [] 600002 7302232 (lw_Z below #[Value.ref b] s) (F0 m pc ls [.int 1]) := by
  intro T hT X
  obtain ⟨fs, hret, hrun, hended, hW, hframe⟩ := X.leave (v := some (.int 1)) (hlocks := hlocks) (fun h => by rw [hr] at h; cases h)
  have hmeth' : T.vm.method? m = some meth := X.method'
  refine ⟨T.setFrames fs, ?_, .returned (some (.int 1)), hrun, hended, rfl, ⟨_, rfl⟩, hW, hframe⟩
  jvm_step X.here [X.here.top, hx, hb, hdg, hmeth', hr, ret, narrow_b1]
  (try refine ⟨rfl, ?_⟩); (try refine ⟨rfl, ?_⟩)
  first | (intro acts; rw [hret _ acts rfl rfl rfl]) | rw [hret _ _ rfl rfl rfl]
  exact Steps.refl _
/-- what holds at the law's entry: the machine, the code, the tables' words (any of lw_tbl by 'hts w (by decide +kernel)'), the script of L ints xs at the cell b, what the Statement gives of the start (any of its parts by flat_of_before) -/
def lw_At (p : Program) (s : State) (m : MethodId) (meth : Method) (c : Code) (b L : Nat) (xs : Nat → Int32) : Prop :=
  p.tables.exec = Jvm.exec ∧ c.code = code ∧ meth.sig.returnType = ret ∧ c.maxLocals = 8 ∧ s.vm.findClass R_law = some m.cls ∧ (∀ w ∈ lw_tbl, w.before #[Value.ref b] s = true) ∧ va_X b L xs s s.heap ∧ b < s.heap.size ∧ meth.locks = false ∧ (Jvm.Cond.and given_1 narrow_1).before #[Value.ref b] s = true
/-! the law: its script, its end, what holds at every row of it -/
theorem zStand_room {p : Program} {l : Launch} {e : Env} {R R2 : Room} {s : State} {m : MethodId} {args : Array Value} {below : List Frame} {meth : Method} {c : Code} {T : State} {locs : List Loc} {cells slots : Nat} (h1 : R2.frames ≤ R.frames) (h2 : R2.locals ≤ R.locals) (h3 : R2.cells ≤ R.cells) (h4 : R2.slots ≤ R.slots) (X : Stand p l e R s m args below meth c T locs cells slots) : Stand p l e R2 s m args below meth c T locs cells slots := by
  refine { X with room := ?_ }
  have h := X.room
  simp only [State.hasRoom, Bool.and_eq_true, decide_eq_true_eq] at h ⊢
  obtain ⟨⟨⟨⟨a1, a2, a3, a4, a5, a6⟩, a7⟩, a8⟩, a9⟩ := h
  exact ⟨⟨⟨⟨by omega, by omega, by omega, by omega, by omega, a6⟩, by omega⟩, by omega⟩, a9⟩
theorem zW_room {p : Program} {l : Launch} {e : Env} {R R2 : Room} {s : State} {m : MethodId} {args : Array Value} {below : List Frame} {meth : Method} {c : Code} {H : Heap} {locs : List Loc} {cells slots : Nat} {Q : State → Prop} {g : JFrame} (h1 : R2.frames ≤ R.frames) (h2 : R2.locals ≤ R.locals) (h3 : R2.cells ≤ R.cells) (h4 : R2.slots ≤ R.slots) (k : W p l e R2 s m args below meth c H locs cells slots Q g) : W p l e R s m args below meth c H locs cells slots Q g :=
  fun T hT X => k T hT (zStand_room h1 h2 h3 h4 X)
/-- as lw_ret, in any room -/
theorem q_ret {p : Program} {l : Launch} {e : Env} {R : Room} {s : State} {m : MethodId} {below : List Frame} {meth : Method} {c : Code} {b : Nat} (hx : p.tables.exec = Jvm.exec) (hb : c.code = code) (hr : meth.sig.returnType = ret) (hlocks : meth.locks = false) {pc : Nat} {H : Heap} {ls : Array Slot} (hdg : decode code pc = .ok (.ireturn, 1)) : W p l e R s m #[Value.ref b] below meth c H [] 600002 7302232 (lw_Z below #[Value.ref b] s) (F0 m pc ls [.int 1]) := by
  intro T hT X
  obtain ⟨fs, hret, hrun, hended, hW, hframe⟩ := X.leave (v := some (.int 1)) (hlocks := hlocks) (fun h => by rw [hr] at h; cases h)
  have hmeth' : T.vm.method? m = some meth := X.method'
  refine ⟨T.setFrames fs, ?_, .returned (some (.int 1)), hrun, hended, rfl, ⟨_, rfl⟩, hW, hframe⟩
  jvm_step X.here [X.here.top, hx, hb, hdg, hmeth', hr, ret, narrow_b1]
  (try refine ⟨rfl, ?_⟩); (try refine ⟨rfl, ?_⟩)
  first | (intro acts; rw [hret _ acts rfl rfl rfl]) | rw [hret _ _ rfl rfl rfl]
  exact Steps.refl _
/-- what holds at every row of the law -/
def zC (l : Launch) (G : va_G) (cy : Nat → ClassId) (p : Program) (s : State) (m : MethodId) (meth : Method) (c : Code) (b L : Nat) (xs : Nat → Int32) : Prop :=
  l.stackTraces = false ∧ p.tables.exec = Jvm.exec ∧ c.code = code ∧ meth.sig.returnType = ret ∧ c.maxLocals = 8 ∧ s.vm.findClass "CostBenchLaw" = some m.cls ∧ (∀ w ∈ lwg, w.before #[Value.ref b] s = true) ∧ va_X b L xs s s.heap ∧ b < s.heap.size ∧ meth.locks = false ∧ zK G cy s ∧ zE (fun q => s.heap.size ≤ q) s s.heap ∧ ∃ q1 v1 q2 v2 : Nat, zS q1 v1 q2 v2 (fun q => s.heap.size ≤ q) s s.heap
section ZLW
variable {p : Program} {l : Launch} {e : Env} {R : Room} {s : State} {m : MethodId} {args : Array Value} {below : List Frame} {meth : Method} {c : Code} {H : Heap} {locs : List Loc} {cells slots : Nat} {Q : State → Prop}
variable {cc : ByteArray} {pc : Nat} {ls : Array Slot} {rest : List Value} {G : va_G} {A : Nat → Prop} {ws : va_W} {b L : Nat} {xs : Nat → Int32}
theorem z_sld {v i : Int32} (hx : p.tables.exec = Jvm.exec) (hb : c.code = cc) (hX : va_X b L xs s s.heap) (hbl : b < s.heap.size) (hbA : ¬ A b) (hT : zT G A s.heap H locs ws) (k : Nat) (hi : i = nI k) (hk : k < L ∧ L < 2147483648) (hv : xs k = v) (hdg : decode cc pc = .ok (.iaload, 1))
    (kk : W p l e R s m args below meth c H locs cells slots Q (F0 m (pc + 1) ls (.int v :: rest))) : W p l e R s m args below meth c H locs cells slots Q (F0 m pc ls (.int i :: .ref b :: rest)) := by
  subst hi
  refine va_sld hx hb hX hbl hbA hT.2.2 (vp_in_nI hk.1 (by have := hk.2; omega)) hdg ?_
  rw [nI_clamp (by have := hk.1; have := hk.2; omega), hv]
  exact kk
theorem z_slen {v : Int32} (hx : p.tables.exec = Jvm.exec) (hb : c.code = cc) (hX : va_X b L xs s s.heap) (hbl : b < s.heap.size) (hbA : ¬ A b) (hT : zT G A s.heap H locs ws) (hv : Int32.ofNat L = v) (hdg : decode cc pc = .ok (.arraylength, 1))
    (kk : W p l e R s m args below meth c H locs cells slots Q (F0 m (pc + 1) ls (.int v :: rest))) : W p l e R s m args below meth c H locs cells slots Q (F0 m pc ls (.ref b :: rest)) := by
  subst hv
  exact va_slen hx hb hX hbl hbA hT.2.2 hdg kk
end ZLW
/-- the loop's head when no turn is left, and the law's end -/
theorem q_out {p : Program} {l : Launch} {e : Env} {R : Room} {s : State} {m : MethodId} {below : List Frame} {meth : Method} {c : Code} {H : Heap} {locs : List Loc} {cells slots : Nat} {ls : Array Slot} {G : va_G} {ws : va_W} {b L : Nat} {xs : Nat → Int32} {i n : Int32} (hx : p.tables.exec = Jvm.exec) (hb : c.code = code) (hr : meth.sig.returnType = ret) (hlk : meth.locks = false) (hX : va_X b L xs s s.heap) (hbl : b < s.heap.size) (hT : zT G (fun q => s.heap.size ≤ q) s.heap H locs ws) (hl : lv_has ls 8 [(0, .ref b), (4, .int i)]) (hn : Int32.ofNat L = n) (hg : n - 6 < i) (hc : cells ≤ 600002) (hs : slots ≤ 7302232) :
    W p l e R s m #[Value.ref b] below meth c H locs cells slots (lw_Z below #[Value.ref b] s) (F0 m 23 ls []) := by
  refine lv_iload (pc := 23) hx hb dL_law_23 (lv_at hl 1 rfl) ?_
  refine lv_aload_n (pc := 25) hx hb dL_law_25 rfl (lv_at hl 0 rfl) ?_
  refine z_slen (pc := 26) (v := n) hx hb hX hbl (A := fun q => s.heap.size ≤ q) (Nat.not_le.mpr hbl) hT hn dL_law_26 ?_
  refine lv_bipush (pc := 27) (v := 6) hx hb dL_law_27 (by decide) ?_
  refine z_isub (pc := 29) (v := n - 6) hx hb dL_law_29 rfl ?_
  refine zb_icmp_gt_t (pc := 30) (tgt := 1725) hx hb dL_law_30 (by decide) hg ?_
  refine lv_iconst (pc := 1725) (v := 1) hx hb dL_law_1725 (by decide) ?_
  refine va_forget (fun q hq => hT.2.2.2.2 q hq) (W.widen hc hs ?_)
  exact q_ret hx hb hr hlk dL_law_1726
theorem q_end {p : Program} {l : Launch} {e : Env} {R : Room} {s : State} {m : MethodId} {below : List Frame} {meth : Method} {c : Code} {H : Heap} {locs : List Loc} {cells slots : Nat} {ls : Array Slot} {G : va_G} {ws : va_W} {b : Nat} {xs : Nat → Int32} (hx : p.tables.exec = Jvm.exec) (hb : c.code = code) (hr : meth.sig.returnType = ret) (hlk : meth.locks = false) (hX : va_X b 6 xs s s.heap) (hbl : b < s.heap.size) (hT : zT G (fun q => s.heap.size ≤ q) s.heap H locs ws) (hl : lv_has ls 8 [(0, .ref b), (4, .int 0)]) (hc : cells ≤ 600002) (hs : slots ≤ 7302232) :
    W p l e R s m #[Value.ref b] below meth c H locs cells slots (lw_Z below #[Value.ref b] s) (F0 m 1719 ls []) := by
  refine lv_iinc (pc := 1719) (v := 6) (lv' := [(4, .int 6), (0, .ref b)]) hx hb dL_law_1719 hl (k := 1) rfl (by decide) (by decide) rfl (fun ls hl => ?_)
  refine lv_goto (pc := 1722) (tgt := 23) hx hb dL_law_1722 (by decide) ?_
  exact q_out (i := 6) (n := 6) hx hb hr hlk hX hbl hT (lv_sub hl [1, 0] rfl) rfl (by decide) hc hs
theorem zslot (x : Int32) : x < 0 ∨ (¬ x < 0 ∧ ¬ x < 6 ∧ 5 < x) ∨ ∃ n : Nat, n < 6 ∧ x = nI n := by
  by_cases h : x < 0
  · exact Or.inl h
  obtain ⟨n, hn, rfl⟩ := nI_of h
  rcases Nat.lt_or_ge n 6 with h6 | h6
  · exact Or.inr (Or.inr ⟨n, h6, rfl⟩)
  · exact Or.inr (Or.inl ⟨h, nI_nlt (b := 6) (by omega) (by omega), nI_lt (a := 5) (by omega) (by omega)⟩)
theorem zrng (lo hi : Nat) (hlo : lo ≤ hi) (hhi : hi < 1000) (x : Int32) : x < nI lo ∨ (¬ x < nI lo ∧ ¬ x < nI (hi + 1) ∧ nI hi < x) ∨ ∃ n : Nat, lo ≤ n ∧ n ≤ hi ∧ x = nI n := by
  by_cases h : x < nI lo
  · exact Or.inl h
  have h0 : ¬ x < 0 := fun h1 => h (Int32.lt_of_lt_of_le h1 (nI_pos' (by omega)))
  obtain ⟨n, hn, rfl⟩ := nI_of h0
  have hln : lo ≤ n := Nat.not_lt.mp (fun h2 => h (nI_lt (by omega) (by omega)))
  rcases Nat.lt_or_ge hi n with h6 | h6
  · exact Or.inr (Or.inl ⟨h, nI_nlt (by omega) (by omega), nI_lt (by omega) (by omega)⟩)
  · exact Or.inr (Or.inr ⟨n, hln, h6, rfl⟩)
theorem zarc0 (x : Int32) : x < 0 ∨ (¬ x < 0 ∧ (-1 : Int32) < x) := by
  by_cases h : x < 0
  · exact Or.inl h
  obtain ⟨n, hn, rfl⟩ := nI_of h
  exact Or.inr ⟨h, Int32.lt_of_lt_of_le (by decide) (nI_pos' (by omega))⟩
