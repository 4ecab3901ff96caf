theorem w3_117 : (Cond.classLink "CostBench" (290 : Nat) "java/util/NoSuchElementException") ∈ lwg := lwg_t (tb3 117 rfl) rfl
theorem w1_18 : (Cond.initialized "java/util/NoSuchElementException") ∈ lwg := lwg_t (tb1 18 rfl) rfl
theorem w3_189 : (Cond.classLink "CostBench" (297 : Nat) "java/lang/IllegalArgumentException") ∈ lwg := lwg_t (tb3 189 rfl) rfl
theorem w1_19 : (Cond.initialized "java/lang/IllegalArgumentException") ∈ lwg := lwg_t (tb1 19 rfl) rfl
/-! methods that throw: what they need beside their cells; contracts; the throw; calls of them -/
abbrev zNSE : String := "java/util/NoSuchElementException"
abbrev zIAE : String := "java/lang/IllegalArgumentException"
def zE (A : Nat → Prop) (U : State) (H : Heap) : Prop :=
  (vx_Zq Bundle.tN "UNASSIGNED_STACK" Bundle.steD A U H ∧ vx_Zq Bundle.tN "SUPPRESSED_SENTINEL" Bundle.listD A U H) ∧
  (va_Nw (.castable zNSE zNSE) U ∧ va_Nw (.castable zIAE zIAE) U ∧ va_Nw (.declares (Bundle.initS "java/lang/RuntimeException")) U ∧ va_Nw (.declares (Bundle.initS "java/lang/Exception")) U ∧ va_Nw (.declares (Bundle.initS "java/lang/Throwable")) U) ∧
  va_Nc zIAE zNSE U ∧ (∃ sa, vk_R "CostBench" 292 "no such slot, state or arc" sa U) ∧ (∃ sa, vk_R "CostBench" 299 "a value outside its range" sa U)
theorem zE.call {A B : Nat → Prop} {s U : State} {H : Heap} {locs : List Loc} (h : zE A s s.heap) (hS : va_S A s.heap H locs) (hB : ∀ q, B q → A q) (hU : U.heap = H) (hW : s.WarmedH U.vm) : zE B U U.heap := by
  obtain ⟨⟨h1, h2⟩, ⟨c1, c2, c3, c4, c5⟩, h3, ⟨s1, h4⟩, ⟨s2, h5⟩⟩ := h
  subst hU
  exact ⟨⟨((h1.kept (fun a q1 q2 => hS.2.1 a q1 q2)).narrow hB).moved hW.alike, ((h2.kept (fun a q1 q2 => hS.2.1 a q1 q2)).narrow hB).moved hW.alike⟩, ⟨va_Nw.warmC hW c1, va_Nw.warmC hW c2, va_Nw.warmD hW c3, va_Nw.warmD hW c4, va_Nw.warmD hW c5⟩, va_Nc.moved hW.alike h3, ⟨s1, vk_R.warm hW h4⟩, ⟨s2, vk_R.warm hW h5⟩⟩
theorem zE.blind {A : Nat → Prop} {U : State} {g : JFrame} {mk : MethodId} {a : Array Value} (h : zE A U U.heap) : zE A (U.calling g mk a) (U.calling g mk a).heap := by
  obtain ⟨⟨h1, h2⟩, ⟨c1, c2, c3, c4, c5⟩, h3, ⟨s1, h4⟩, ⟨s2, h5⟩⟩ := h
  exact ⟨⟨h1.moved (u := U) (U := U.calling g mk a) (Vm.Alike.refl U.vm), h2.moved (u := U) (U := U.calling g mk a) (Vm.Alike.refl U.vm)⟩, ⟨va_Nw.same rfl rfl c1, va_Nw.same rfl rfl c2, va_Nw.same rfl rfl c3, va_Nw.same rfl rfl c4, va_Nw.same rfl rfl c5⟩, va_Nc.moved (u := U) (U := U.calling g mk a) (Vm.Alike.refl U.vm) h3, ⟨s1, vk_R.same rfl h4⟩, ⟨s2, vk_R.same rfl h5⟩⟩
def zPreX (G : va_G) (cy : Nat → ClassId) (av : List Value) (sz : Nat) (ws : va_W) : Array Value → State → Prop := va_Pc av (fun U => U.heap.size = sz ∧ va_P G zcl ws U.heap ∧ zK G cy U ∧ va_D (fun _ => True) ws ∧ zE (va_A ws sz) U U.heap)
theorem zPreX_blind {G : va_G} {cy : Nat → ClassId} {av : List Value} {sz : Nat} {ws : va_W} : FrameBlind (zPreX G cy av sz ws) := fun _ _ _ _ q => ⟨q.1, q.2.1, q.2.2.1, q.2.2.2.1.blind, q.2.2.2.2.1, q.2.2.2.2.2.blind⟩
abbrev zXC (E : String) (A : Nat → Prop) : String → State → State → Prop := vx_X (fun (_ : Unit) => True) (fun E9 _ _ => E9 = E) A
abbrev zNV (A : Nat → Prop) : Array Value → State → Outcome → State → Prop := va_Qv (fun (_ : Unit) => False) (fun _ _ => True) A
abbrev zNI (A : Nat → Prop) : Array Value → State → Outcome → State → Prop := va_Qi (fun (_ : Int32) (_ : Unit) => False) (fun _ _ => True) A
abbrev zNJ (A : Nat → Prop) : Array Value → State → Outcome → State → Prop := va_Ql (fun (_ : Int64) (_ : Unit) => False) (fun _ _ => True) A
/-- it throws an E -/
def zX (l : Launch) (G : va_G) (cy : Nat → ClassId) (y : MethodName) (cc : ByteArray) (nL : Nat) (ret : Option FieldType) (d : Nat) (av : List Value) (ws : va_W) (E : String) (N : (Nat → Prop) → Array Value → State → Outcome → State → Prop) : Prop :=
  ∀ sz : Nat, vx_Met l y (Cond.code y cc nL ret :: lwg) (zR d 1 6) (zPreX G cy av sz ws) (N (va_A ws sz)) (zXC E (va_A ws sz)) 1 6 (va_A ws sz)
theorem zX.of {l : Launch} {G : va_G} {cy : Nat → ClassId} {y : MethodName} {cc : ByteArray} {nL : Nat} {ret : Option FieldType} {d : Nat} {av : List Value} {ws : va_W} {E : String} {N : (Nat → Prop) → Array Value → State → Outcome → State → Prop}
    (hy : plainName y.cls = true) (hlen : (lg_sl av).length ≤ nL)
    (body : ∀ (p : Program) (e : Env) (s : State) (m : MethodId) (args : Array Value) (below : List Frame) (meth : Method) (c : Code) (ls : Array Slot) (A : Nat → Prop), p.tables.exec = Jvm.exec → c.code = cc → c.maxLocals = nL → s.vm.findClass y.cls = some m.cls → (∀ w ∈ lwg, w.before args s = true) → meth.locks = false → (∀ x ∈ c.exceptionTable.toList, False) →
      lv_has ls nL (lv_args 0 av) → zK G cy s → zE A s s.heap → (∀ q, s.heap.size ≤ q → A q) → zT G A s.heap s.heap [] ws →
      W p l e (zR d 1 6) s m args below meth c s.heap [] 0 0 (vx_MQ below (N A) (zXC E A) args s 1 6 A) (F0 m 0 ls [])) : zX l G cy y cc nL ret d av ws E N := by
  intro sz
  refine vx_ofW (cc := cc) (maxL := nL) (ret := ret) hy rfl ?_
  intro p e s m args below meth c s₁ B hml htab hv
  obtain ⟨rfl, hsz, hP, hK, hD0, hE⟩ := hv
  subst hsz
  have hts := atoms_spec (ws := Cond.code y cc nL ret :: lwg) B.pre
  rw [lg_entry_eq]
  exact body p e s m _ below meth c _ _ B.exec B.bytes hml (findClass_of_methodNamed B.named) (fun w h => hts w (List.mem_cons_of_mem _ h)) B.notSynchronized htab (lv_entry av hlen) hK hE (fun q h => Or.inr h) ⟨hP, hD0.self, va_S.rf⟩
abbrev zAtN : List Cond := vx_atS "CostBench" 294 zNSE ["java/lang/RuntimeException", "java/lang/Exception"]
abbrev zAtA : List Cond := vx_atS "CostBench" 301 zIAE ["java/lang/RuntimeException", "java/lang/Exception"]
set_option maxRecDepth 100000 in
theorem zAtN_g : ∀ w ∈ zAtN.filter goodWord, w ∈ lwg := by
  have h : (zAtN.filter goodWord).all (fun w => decide (w ∈ tables_1)) = true := by decide +kernel
  intro w hw
  exact lwg_t (of_decide_eq_true (List.all_eq_true.mp h w hw)) (List.mem_filter.mp hw).2
set_option maxRecDepth 100000 in
theorem zAtA_g : ∀ w ∈ zAtA.filter goodWord, w ∈ lwg := by
  have h : (zAtA.filter goodWord).all (fun w => decide (w ∈ tables_1)) = true := by decide +kernel
  intro w hw
  exact lwg_t (of_decide_eq_true (List.all_eq_true.mp h w hw)) (List.mem_filter.mp hw).2
abbrev zBn (X : String) : List Cond := [.castable X X, .declares (Bundle.initS "java/lang/RuntimeException"), .declares (Bundle.initS "java/lang/Exception"), .declares (Bundle.initS "java/lang/Throwable")]
theorem zAtN_b : ∀ w ∈ zAtN.filter (fun w => !goodWord w), w ∈ zBn zNSE := by decide +kernel
theorem zAtA_b : ∀ w ∈ zAtA.filter (fun w => !goodWord w), w ∈ zBn zIAE := by decide +kernel
theorem zAtN_o : ∀ w ∈ Cond.classLink "CostBench" 290 zNSE :: Cond.initialized zNSE :: zAtN, vx_ot w = true := by decide +kernel
theorem zAtA_o : ∀ w ∈ Cond.classLink "CostBench" 297 zIAE :: Cond.initialized zIAE :: zAtA, vx_ot w = true := by decide +kernel
section ZTH
variable {p : Program} {l : Launch} {e : Env} {s : State} {m : MethodId} {args : Array Value} {below : List Frame} {meth : Method} {c : Code} {H : Heap} {locs : List Loc} {cells slots D : Nat}
variable {cc : ByteArray} {pc nL : Nat} {ls : Array Slot} {rest : List Value} {G : va_G} {cy : Nat → ClassId} {A : Nat → Prop} {ws : va_W} {Qc : Array Value → State → Outcome → State → Prop}
theorem zFof {t : State} (hS : va_S A s.heap H locs) (h1 : H.size ≤ t.heap.size) (h2 : ∀ q : Nat, q < H.size → t.heap[q]? = H[q]?) : va_F A s t :=
  ⟨Nat.le_trans hS.1 h1, fun q h3 h4 => by rw [h2 q (Nat.lt_of_lt_of_le h3 hS.1)]; exact hS.2.1 q h3 h4⟩
theorem z_throwN (hl0 : l.stackTraces = false) (hx : p.tables.exec = Jvm.exec) (hb : c.code = cc) (hml : c.maxLocals = nL) (hown : s.vm.findClass "CostBench" = some m.cls) (hts : ∀ w ∈ lwg, w.before args s = true) (hlk : meth.locks = false) (htab : ∀ x ∈ c.exceptionTable.toList, False) (hE : zE A s s.heap) (hT : zT G A s.heap H locs ws) (hsz : ls.size = nL) (hw8 : (rest.map fun v => v.category).sum ≤ 8) (hc : cells ≤ 0) (hs : slots ≤ 0)
    (d0 : decode cc pc = .ok (.new 290, 3)) (d3 : decode cc (pc + 3) = .ok (.dup, 1)) (d4 : decode cc (pc + 4) = .ok (.ldc_w 292, 3)) (d7 : decode cc (pc + 7) = .ok (.invokespecial 294, 3)) (d10 : decode cc (pc + 10) = .ok (.athrow, 1)) :
    W p l e (zR D 1 6) s m args below meth c H locs cells slots (vx_MQ below Qc (zXC zNSE A) args s 1 6 A) (F0 m pc ls rest) := by
  obtain ⟨⟨h1, h2⟩, ⟨c1, c2, c3, c4, c5⟩, h3, ⟨s1, h4⟩, ⟨s2, h5⟩⟩ := hE
  exact vx_throwSW (names := ["java/lang/RuntimeException", "java/lang/Exception"]) hx hb hl0 hown (by decide +kernel) (by decide +kernel) (hts _ w3_117) (hts _ w1_18) h4 (vx_hat (fun w hw => hts w (zAtN_g w hw)) zAtN_b (vx_c (va_Nw.use rfl c1) (vx_c (va_Nw.use rfl c3) (vx_c (va_Nw.use rfl c4) (vx_c (va_Nw.use rfl c5) vx_n))))) zAtN_o h1 h2 hT.2.2 (by rw [hml]; exact hsz) d0 d3 d4 d7 d10 (fun x hx9 => (htab x hx9).elim) (by simp only [zR, List.length_cons, List.length_nil]; omega) (by simp only [zR, List.length_cons, List.length_nil]; omega) (by simp only [zR]; omega) (by simp only [zR]; omega) hlk (fun t _ q1 q2 => ⟨(), trivial, rfl, zFof hT.2.2 q1 q2⟩) hT.2.2.2.2 (by omega) (by omega)
theorem z_throwA (hl0 : l.stackTraces = false) (hx : p.tables.exec = Jvm.exec) (hb : c.code = cc) (hml : c.maxLocals = nL) (hown : s.vm.findClass "CostBench" = some m.cls) (hts : ∀ w ∈ lwg, w.before args s = true) (hlk : meth.locks = false) (htab : ∀ x ∈ c.exceptionTable.toList, False) (hE : zE A s s.heap) (hT : zT G A s.heap H locs ws) (hsz : ls.size = nL) (hw8 : (rest.map fun v => v.category).sum ≤ 8) (hc : cells ≤ 0) (hs : slots ≤ 0)
    (d0 : decode cc pc = .ok (.new 297, 3)) (d3 : decode cc (pc + 3) = .ok (.dup, 1)) (d4 : decode cc (pc + 4) = .ok (.ldc_w 299, 3)) (d7 : decode cc (pc + 7) = .ok (.invokespecial 301, 3)) (d10 : decode cc (pc + 10) = .ok (.athrow, 1)) :
    W p l e (zR D 1 6) s m args below meth c H locs cells slots (vx_MQ below Qc (zXC zIAE A) args s 1 6 A) (F0 m pc ls rest) := by
  obtain ⟨⟨h1, h2⟩, ⟨c1, c2, c3, c4, c5⟩, h3, ⟨s1, h4⟩, ⟨s2, h5⟩⟩ := hE
  exact vx_throwSW (names := ["java/lang/RuntimeException", "java/lang/Exception"]) hx hb hl0 hown (by decide +kernel) (by decide +kernel) (hts _ w3_189) (hts _ w1_19) h5 (vx_hat (fun w hw => hts w (zAtA_g w hw)) zAtA_b (vx_c (va_Nw.use rfl c2) (vx_c (va_Nw.use rfl c3) (vx_c (va_Nw.use rfl c4) (vx_c (va_Nw.use rfl c5) vx_n))))) zAtA_o h1 h2 hT.2.2 (by rw [hml]; exact hsz) d0 d3 d4 d7 d10 (fun x hx9 => (htab x hx9).elim) (by simp only [zR, List.length_cons, List.length_nil]; omega) (by simp only [zR, List.length_cons, List.length_nil]; omega) (by simp only [zR]; omega) (by simp only [zR]; omega) hlk (fun t _ q1 q2 => ⟨(), trivial, rfl, zFof hT.2.2 q1 q2⟩) hT.2.2.2.2 (by omega) (by omega)
end ZTH
section ZXC
variable {p : Program} {l : Launch} {e : Env} {s : State} {m : MethodId} {args : Array Value} {below : List Frame} {meth : Method} {c : Code} {H : Heap} {locs : List Loc} {cells slots : Nat}
variable {cc : ByteArray} {pc nL : Nat} {ls : Array Slot} {rest : List Value} {G : va_G} {cy : Nat → ClassId} {A : Nat → Prop} {ws : va_W} {own : String}
variable {D d yn n idx : Nat} {y : MethodName} {yc : ByteArray} {ret : Option FieldType} {b : Nat} {As st0 : List Value} {wc : va_W} {Qc : Array Value → State → Outcome → State → Prop} {E : String}
theorem z_preX {av : List Value} (hK : zK G cy s) (hE : zE A s s.heap) (hA : ∀ q, s.heap.size ≤ q → A q) (hT : zT G A s.heap H locs ws) (isC : List Nat) (hnC : va_nd isC = true) (hC : isC.map (fun i => ws[i]?) = wc.map some) : PreS s H (zPreX G cy av H.size wc) av :=
  ⟨zPreX_blind, fun U hU hW => ⟨rfl, by rw [hU], by rw [hU]; exact (hT.sub isC hnC hC).1, hK.warm hW, (hT.sub isC hnC hC).2.1.weaken (fun _ _ _ _ => trivial), hE.call hT.2.2 (va_free hT.2.1 hT.2.2 hA isC hC) hU hW⟩⟩
/-- a call of a method that throws, out of a method that does not catch -/
theorem z_cVX {C : String} {ci N : Nat} {T : u_T} {fs : List Value} (hx : p.tables.exec = Jvm.exec) (hb : c.code = cc) (hml : c.maxLocals = nL) (hown : s.vm.findClass own = some m.cls) (hts : ∀ w ∈ lwg, w.before args s = true) (hlk : meth.locks = false) (htab : ∀ x ∈ c.exceptionTable.toList, False) (hK : zK G cy s) (hE : zE A s s.heap) (hA : ∀ q, s.heap.size ≤ q → A q) (hT : zT G A s.heap H locs ws) (L : zLV own idx y C yc yn ret n) (hM : zX l G cy y yc yn ret d (.ref b :: As) wc E zNV) (isC : List Nat) (hnC : va_nd isC = true) (hC : isC.map (fun i => ws[i]?) = wc.map some) (q0 : Nat) (hq : wc[q0]? = some (b, .inr (ci, fs))) (hcl : zcl[ci]? = some (C, T, N)) (hd : d < D) (hlen : As.length = n) (hsz : ls.size = nL) (hst : st0 = As.reverse ++ .ref b :: rest) (hw8 : (rest.map fun v => v.category).sum ≤ 8) (hdg : decode cc pc = .ok (.invokevirtual idx, 3)) (hc : cells ≤ 0) (hs : slots ≤ 0) :
    W p l e (zR D 1 6) s m args below meth c H locs cells slots (vx_MQ below Qc (zXC E A) args s 1 6 A) (F0 m pc ls st0) := by
  have hFc : ∀ q, va_A wc H.size q → A q := va_free hT.2.1 hT.2.2 hA isC hC
  refine vx_callv (vx_runV (As := As) (rest := rest) ⟨hx, hb, hml, hown, hts⟩ (hM H.size) ⟨callB_of n hts (zgood L.2.2.2.2.1) rfl rfl rfl (hts _ L.2.2.2.1) (hts _ L.1) L.2.2.2.2.2.1 (zroom hd L.2.2.2.2.2.2), hts _ L.2.1, hts _ L.2.2.1⟩ ⟨zPreX_blind, va_recv hK.1 (hT.sub isC hnC hC).1 hcl hq, (z_preX hK hE hA hT isC hnC hC).2⟩ rfl hlen hsz hst (lv_room hw8) hdg ⟨by simp only [zR]; omega, by simp only [zR]; omega⟩) hT.2.2 (fun q _ h => hFc q h) hFc (fun q _ h => hFc q h) (fun E9 ce q9 u t H1 locs1 ht hvm hp hB hz1 hk1 hS hcell hv hcl9 => ?_) (fun u t H1 locs1 ht hvm hp => hp.elim)
  exact vx_out (fun x hx9 => (htab x hx9).elim) hlk hcell hv hcl9 (fun t9 ht9 _ => ⟨(), trivial, hB, hS.F ht9⟩) hS.2.2 (by omega) (by omega)
end ZXC
