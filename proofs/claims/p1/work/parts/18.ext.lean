/-! contracts whose start says more of the state (an E that calls keep); string constants -/
abbrev zXt : Type := (Nat → Prop) → State → Heap → Prop
def zOk (E : zXt) : Prop := (∀ (A B : Nat → Prop) (s U : State) (H : Heap) (locs : List Loc), E A s s.heap → va_S A s.heap H locs → (∀ q, B q → A q) → U.heap = H → s.WarmedH U.vm → E B U U.heap) ∧ ∀ (A : Nat → Prop) (U : State) (g : JFrame) (mk : MethodId) (a : Array Value), E A U U.heap → E A (U.calling g mk a) (U.calling g mk a).heap
theorem zE_ok : zOk zE := ⟨fun _ _ _ _ _ _ h hS hB hU hW => h.call hS hB hU hW, fun _ _ _ _ _ h => h.blind⟩
def zPreE (E : zXt) (G : va_G) (cy : Nat → ClassId) (av : List Value) (sz : Nat) (ws : va_W) : Array Value → State → Prop := va_Pc av (fun U => U.heap.size = sz ∧ va_P G zcl ws U.heap ∧ zK G cy U ∧ va_D (fun _ => True) ws ∧ E (va_A ws sz) U U.heap)
theorem zPreE_blind {E : zXt} (hO : zOk E) {G : va_G} {cy : Nat → ClassId} {av : List Value} {sz : Nat} {ws : va_W} : FrameBlind (zPreE E G cy av sz ws) := fun _ _ _ _ q => ⟨q.1, q.2.1, q.2.2.1, q.2.2.2.1.blind, q.2.2.2.2.1, hO.2 _ _ _ _ _ q.2.2.2.2.2⟩
def zN (E : zXt) (l : Launch) (G : va_G) (cy : Nat → ClassId) (y : MethodName) (cc : ByteArray) (nL : Nat) (ret : Option FieldType) (d mc ms : Nat) (av : List Value) (ws : va_W) (Q : (Nat → Prop) → Array Value → State → Outcome → State → Prop) : Prop :=
  ∀ sz : Nat, Met l y (Cond.code y cc nL ret :: lwg) (zR d mc ms) (zPreE E G cy av sz ws) (Q (va_A ws sz)) mc ms (va_A ws sz)
theorem zN.of {E : zXt} {l : Launch} {G : va_G} {cy : Nat → ClassId} {y : MethodName} {cc : ByteArray} {nL : Nat} {ret : Option FieldType} {d mc ms : Nat} {av : List Value} {ws : va_W} {Q : (Nat → Prop) → Array Value → State → Outcome → State → Prop}
    (hy : plainName y.cls = true) (hlen : (lg_sl av).length ≤ nL)
    (body : ∀ (p : Program) (e : Env) (s : State) (m : MethodId) (args : Array Value) (below : List Frame) (meth : Method) (c : Code) (ls : Array Slot) (A : Nat → Prop), p.tables.exec = Jvm.exec → c.code = cc → c.maxLocals = nL → s.vm.findClass y.cls = some m.cls → (∀ w ∈ lwg, w.before args s = true) → meth.locks = false → meth.sig.returnType = ret →
      lv_has ls nL (lv_args 0 av) → zK G cy s → E A s s.heap → (∀ q, s.heap.size ≤ q → A q) → zT G A s.heap s.heap [] ws →
      W p l e (zR d mc ms) s m args below meth c s.heap [] 0 0 (MQ below (Q A) args s mc ms A) (F0 m 0 ls [])) : zN E l G cy y cc nL ret d mc ms av ws Q := by
  intro sz
  refine Met.ofW (cc := cc) (maxL := nL) (ret := ret) hy rfl ?_
  intro p e s m args below meth c s₁ B hml hv
  obtain ⟨rfl, hsz, hP, hK, hD0, hE⟩ := hv
  subst hsz
  have hts := atoms_spec (ws := Cond.code y cc nL ret :: lwg) B.pre
  rw [lg_entry_eq]
  exact body p e s m _ below meth c _ _ B.exec B.bytes hml (findClass_of_methodNamed B.named) (fun w h => hts w (List.mem_cons_of_mem _ h)) B.notSynchronized B.returns (lv_entry av hlen) hK hE (fun q h => Or.inr h) ⟨hP, hD0.self, va_S.rf⟩
abbrev zNI' (E : zXt) (l : Launch) (G : va_G) (cy : Nat → ClassId) (y : MethodName) (cc : ByteArray) (nL : Nat) (ret : Option FieldType) (d mc ms : Nat) (av : List Value) (ws : va_W) (r : Int32) (ws' : (Nat → Nat → Nat) → va_W) : Prop := zN E l G cy y cc nL ret d mc ms av ws (fun A => zQI G A r ws')
abbrev zNV' (E : zXt) (l : Launch) (G : va_G) (cy : Nat → ClassId) (y : MethodName) (cc : ByteArray) (nL : Nat) (ret : Option FieldType) (d mc ms : Nat) (av : List Value) (ws : va_W) (ws' : (Nat → Nat → Nat) → va_W) : Prop := zN E l G cy y cc nL ret d mc ms av ws (fun A => zQV G A ws')
/-- a law helper over an E, with its table, returning -/
def zHE (E : zXt) (l : Launch) (G : va_G) (cy : Nat → ClassId) (y : MethodName) (cc : ByteArray) (nL : Nat) (hh : List (Nat × Nat × Nat × Nat)) (d : Nat) (av : List Value) (ws : va_W) (r : Int32) (ws' : (Nat → Nat → Nat) → va_W) : Prop :=
  ∀ sz : Nat, Met l y (Cond.codeWith y cc nL (some .int) hh :: lwg) (zR d 1 6) (zPreE E G cy av sz ws) (zQI G (va_A ws sz) r ws') 1 6 (va_A ws sz)
theorem zHE.of {E : zXt} {l : Launch} {G : va_G} {cy : Nat → ClassId} {y : MethodName} {cc : ByteArray} {nL : Nat} {hh : List (Nat × Nat × Nat × Nat)} {d : Nat} {av : List Value} {ws : va_W} {r : Int32} {ws' : (Nat → Nat → Nat) → va_W}
    (hy : plainName y.cls = true) (hlen : (lg_sl av).length ≤ nL)
    (body : ∀ (p : Program) (e : Env) (s : State) (m : MethodId) (args : Array Value) (below : List Frame) (meth : Method) (c : Code) (ls : Array Slot) (A : Nat → Prop), p.tables.exec = Jvm.exec → c.code = cc → c.maxLocals = nL → s.vm.findClass y.cls = some m.cls → (∀ w ∈ lwg, w.before args s = true) → meth.locks = false → meth.sig.returnType = some .int → c.exceptionTable.toList = tableOf hh →
      lv_has ls nL (lv_args 0 av) → zK G cy s → E A s s.heap → (∀ q, s.heap.size ≤ q → A q) → zT G A s.heap s.heap [] ws →
      W p l e (zR d 1 6) s m args below meth c s.heap [] 0 0 (MQ below (zQI G A r ws') args s 1 6 A) (F0 m 0 ls [])) : zHE E l G cy y cc nL hh d av ws r ws' := by
  intro sz
  refine zMet_of_vx (vx_ofWH (cc := cc) (maxL := nL) (ret := some .int) (hh := hh) hy rfl ?_)
  intro p e s m args below meth c s₁ B hml hv
  obtain ⟨rfl, hsz, hP, hK, hD0, hE⟩ := hv
  subst hsz
  have hts := atoms_spec (ws := Cond.codeWith y cc nL (some .int) hh :: lwg) B.pre
  rw [lg_entry_eq]
  exact vx_ret (body p e s m _ below meth c _ _ B.exec B.bytes hml (findClass_of_methodNamed B.named) (fun w h => hts w (List.mem_cons_of_mem _ h)) B.notSynchronized B.returns (vx_table (x := y) B (hts _ List.mem_cons_self)) (lv_entry av hlen) hK hE (fun q h => Or.inr h) ⟨hP, hD0.self, va_S.rf⟩)
theorem zH.e {l : Launch} {G : va_G} {cy : Nat → ClassId} {y : MethodName} {cc : ByteArray} {nL : Nat} {hh : List (Nat × Nat × Nat × Nat)} {d : Nat} {av : List Value} {ws : va_W} {r : Int32} {ws' : (Nat → Nat → Nat) → va_W} (h : zH l G cy y cc nL hh d av ws r ws') : zHE zE l G cy y cc nL hh d av ws r ws' := h
def zLH (own : String) (idx : Nat) (y : MethodName) (yc : ByteArray) (yn : Nat) (hh : List (Nat × Nat × Nat × Nat)) (n : Nat) : Prop := Cond.methodLink own idx y ∈ lwg ∧ Cond.static y ∈ lwg ∧ Cond.initialized y.cls ∈ lwg ∧ Cond.codeWith y yc yn (some .int) hh ∈ lwg ∧ zhd y n ∧ yn ≤ 40
section ZCE
variable {p : Program} {l : Launch} {e : Env} {s : State} {m : MethodId} {args : Array Value} {below : List Frame} {meth : Method} {c : Code} {H : Heap} {locs : List Loc} {cells slots : Nat} {Q : State → Prop} {E : zXt}
variable {cc : ByteArray} {pc nL : Nat} {ls : Array Slot} {rest : List Value} {G : va_G} {cy : Nat → ClassId} {A : Nat → Prop} {ws : va_W} {own : String}
variable {D MC MS d mc ms yn n idx : Nat} {y : MethodName} {yc : ByteArray} {ret : Option FieldType} {b : Nat} {As st0 : List Value} {wc : va_W} {wc' : (Nat → Nat → Nat) → va_W}
theorem z_preE {av : List Value} (hO : zOk E) (hK : zK G cy s) (hE : E A s s.heap) (hA : ∀ q, s.heap.size ≤ q → A q) (hT : zT G A s.heap H locs ws) (isC : List Nat) (hnC : va_nd isC = true) (hC : isC.map (fun i => ws[i]?) = wc.map some) : PreS s H (zPreE E G cy av H.size wc) av :=
  ⟨zPreE_blind hO, fun U hU hW => ⟨rfl, by rw [hU], by rw [hU]; exact (hT.sub isC hnC hC).1, hK.warm hW, (hT.sub isC hnC hC).2.1.weaken (fun _ _ _ _ => trivial), hO.1 _ _ _ _ _ _ hE hT.2.2 (va_free hT.2.1 hT.2.2 hA isC hC) hU hW⟩⟩
/-- a String constant by the wide form (as the library's step for the short one) -/
theorem z_ldcSW (hx : p.tables.exec = Jvm.exec) (hb : c.code = cc) {tx : String} {index q : Nat} (hown : s.vm.findClass own = some m.cls) (hZ : vk_R own index tx q s) (hdg : decode cc pc = .ok (.ldc_w index, 3))
    (kk : W p l e (zR D MC MS) s m args below meth c H locs cells slots Q (F0 m (pc + 3) ls (.ref q :: rest))) : W p l e (zR D MC MS) s m args below meth c H locs cells slots Q (F0 m pc ls rest) := by
  intro T hT X
  obtain ⟨t, a1, b1⟩ := kk T hT X
  refine ⟨t, ?_, b1⟩
  obtain ⟨k, cf, i, a', hk, hcf, hcp, -, hr, hev'⟩ := Cond.stringRef_spec hown hZ.1
  cases hZ.2.symm.trans hev'
  obtain ⟨k', hk', he⟩ := X.warmed.alike.2.2 _ _ hk
  have hr' : k'.resolved[index]? = some (some (.string q)) := by
    rcases X.warmed.entry hk hk' index with h | ⟨h, -⟩
    · rw [h]; exact hr
    · rw [hr] at h; cases h
  have hdg' : decode c.code (F0 m pc ls rest).pc = .ok (.ldc_w index, 3) := by rw [hb]; exact hdg
  jvm_step X.here [hx, hdg', ldc_w.wp_string (e := e) (s := T) (f := F0 m pc ls rest) X.here.top hk' (by rw [he]; exact hcf) hcp hr']
  exact a1
theorem zrecvO {C : String} {q : Nat} (h : va_O C q A s s.heap) (hS : va_S A s.heap H locs) : ∃ cell : Cell, H[q]? = some cell ∧ cell.vm.isStatics = false ∧ s.vm.findClass C = some cell.cls := by
  obtain ⟨cell, h1, h2, h3, -⟩ := h.kept hS.2.1
  exact ⟨cell, h1, h2, h3⟩
theorem zgoodS {w1 w2 w3 : Cond} {ws : List Cond} (h1 : w1 ∈ lwg) (h2 : w2 ∈ lwg) (h3 : w3 ∈ lwg) (h : GoodIn lwg ws) : GoodIn lwg (([w1, w2, w3] : List Cond) ++ ws) := fun v hv => by
  rcases List.mem_append.mp hv with hv | hv
  · rcases List.mem_cons.mp hv with rfl | hv
    · exact ⟨h1, lwg_g h1⟩
    rcases List.mem_cons.mp hv with rfl | hv
    · exact ⟨h2, lwg_g h2⟩
    obtain rfl := List.mem_singleton.mp hv
    exact ⟨h3, lwg_g h3⟩
  · exact h v hv
theorem z_eVI {C : String} {ci N : Nat} {T : u_T} {fs : List Value} {r : Int32} (hO : zOk E) (hE : E A s s.heap) (hx : p.tables.exec = Jvm.exec) (hb : c.code = cc) (hml : c.maxLocals = nL) (hown : s.vm.findClass own = some m.cls) (hts : ∀ w ∈ lwg, w.before args s = true) (hK : zK G cy s) (hA : ∀ q, s.heap.size ≤ q → A q) (hT : zT G A s.heap H locs ws) (L : zLV own idx y C yc yn ret n) (hM : zNI' E l G cy y yc yn ret d mc ms (.ref b :: As) wc r wc') (isC isR : List Nat) (hnC : va_nd isC = true) (hnR : va_nd isR = true) (hdis : isR.all (fun i => !isC.contains i) = true) (hC : isC.map (fun i => ws[i]?) = wc.map some) (hR : isR.all (fun i => decide (i < ws.length)) = true) (q0 : Nat) (hq : wc[q0]? = some (b, .inr (ci, fs))) (hcl : zcl[ci]? = some (C, T, N)) (hd : d < D) (hlen : As.length = n) (hsz : ls.size = nL) (hst : st0 = As.reverse ++ .ref b :: rest) (hw8 : (rest.map fun v => v.category).sum ≤ 8) (hdg : decode cc pc = .ok (.invokevirtual idx, 3)) (hf : cells + mc ≤ (zR D MC MS).cells ∧ slots + ms ≤ (zR D MC MS).slots) (ws2 : (Nat → Nat → Nat) → va_W) (hw2 : ∀ qs, isR.filterMap (fun i => ws[i]?) ++ wc' qs = ws2 qs)
    (kk : ∀ (qs : Nat → Nat → Nat) (H1 : Heap) (locs1 : List Loc), zT G A s.heap H1 locs1 (ws2 qs) → W p l e (zR D MC MS) s m args below meth c H1 locs1 (cells + mc) (slots + ms) Q (F0 m (pc + 3) ls (.int r :: rest))) : W p l e (zR D MC MS) s m args below meth c H locs cells slots Q (F0 m pc ls st0) := by
  have hFc : ∀ q, va_A wc H.size q → A q := va_free hT.2.1 hT.2.2 hA isC hC
  refine va_calli (va_runV (As := As) (rest := rest) ⟨hx, hb, hml, hown, hts⟩ (hM H.size) ⟨callB_of n hts (zgood L.2.2.2.2.1) rfl rfl rfl (hts _ L.2.2.2.1) (hts _ L.1) L.2.2.2.2.2.1 (zroom hd L.2.2.2.2.2.2), hts _ L.2.1, hts _ L.2.2.1⟩ ⟨zPreE_blind hO, va_recv hK.1 (hT.sub isC hnC hC).1 hcl hq, (z_preE hO hK hE hA hT isC hnC hC).2⟩ rfl hlen hsz hst (lv_room hw8) hdg hf) hT.2.2 (fun q _ h => hFc q h) hFc (fun r9 u t H1 locs1 ht hvm hp hB hz1 hk1 hS => ?_)
  obtain rfl : r9 = r := hp
  obtain ⟨qs, hP1, hD1⟩ := hB
  rw [ht] at hP1
  obtain ⟨hP9, hD9⟩ := va_join (wr := isR.filterMap (fun i => ws[i]?)) (w1 := wc' qs) hT.1 hT.2.1 isC isR hC (zfm hR) hnR (zdis hdis) hk1 hFc hP1 hD1
  exact kk qs H1 locs1 (by rw [← hw2 qs]; exact ⟨hP9, hD9, hS⟩)
theorem z_eVV {C : String} {ci N : Nat} {T : u_T} {fs : List Value} (hO : zOk E) (hE : E A s s.heap) (hx : p.tables.exec = Jvm.exec) (hb : c.code = cc) (hml : c.maxLocals = nL) (hown : s.vm.findClass own = some m.cls) (hts : ∀ w ∈ lwg, w.before args s = true) (hK : zK G cy s) (hA : ∀ q, s.heap.size ≤ q → A q) (hT : zT G A s.heap H locs ws) (L : zLV own idx y C yc yn ret n) (hM : zNV' E l G cy y yc yn ret d mc ms (.ref b :: As) wc wc') (isC isR : List Nat) (hnC : va_nd isC = true) (hnR : va_nd isR = true) (hdis : isR.all (fun i => !isC.contains i) = true) (hC : isC.map (fun i => ws[i]?) = wc.map some) (hR : isR.all (fun i => decide (i < ws.length)) = true) (q0 : Nat) (hq : wc[q0]? = some (b, .inr (ci, fs))) (hcl : zcl[ci]? = some (C, T, N)) (hd : d < D) (hlen : As.length = n) (hsz : ls.size = nL) (hst : st0 = As.reverse ++ .ref b :: rest) (hw8 : (rest.map fun v => v.category).sum ≤ 8) (hdg : decode cc pc = .ok (.invokevirtual idx, 3)) (hf : cells + mc ≤ (zR D MC MS).cells ∧ slots + ms ≤ (zR D MC MS).slots) (ws2 : (Nat → Nat → Nat) → va_W) (hw2 : ∀ qs, isR.filterMap (fun i => ws[i]?) ++ wc' qs = ws2 qs)
    (kk : ∀ (qs : Nat → Nat → Nat) (H1 : Heap) (locs1 : List Loc), zT G A s.heap H1 locs1 (ws2 qs) → W p l e (zR D MC MS) s m args below meth c H1 locs1 (cells + mc) (slots + ms) Q (F0 m (pc + 3) ls (rest))) : W p l e (zR D MC MS) s m args below meth c H locs cells slots Q (F0 m pc ls st0) := by
  have hFc : ∀ q, va_A wc H.size q → A q := va_free hT.2.1 hT.2.2 hA isC hC
  refine va_callv (va_runV (As := As) (rest := rest) ⟨hx, hb, hml, hown, hts⟩ (hM H.size) ⟨callB_of n hts (zgood L.2.2.2.2.1) rfl rfl rfl (hts _ L.2.2.2.1) (hts _ L.1) L.2.2.2.2.2.1 (zroom hd L.2.2.2.2.2.2), hts _ L.2.1, hts _ L.2.2.1⟩ ⟨zPreE_blind hO, va_recv hK.1 (hT.sub isC hnC hC).1 hcl hq, (z_preE hO hK hE hA hT isC hnC hC).2⟩ rfl hlen hsz hst (lv_room hw8) hdg hf) hT.2.2 (fun q _ h => hFc q h) hFc (fun u t H1 locs1 ht hvm hp hB hz1 hk1 hS => ?_)
  obtain ⟨qs, hP1, hD1⟩ := hB
  rw [ht] at hP1
  obtain ⟨hP9, hD9⟩ := va_join (wr := isR.filterMap (fun i => ws[i]?)) (w1 := wc' qs) hT.1 hT.2.1 isC isR hC (zfm hR) hnR (zdis hdis) hk1 hFc hP1 hD1
  exact kk qs H1 locs1 (by rw [← hw2 qs]; exact ⟨hP9, hD9, hS⟩)
theorem z_eWI {C : String} {r : Int32} (hO : zOk E) (hE : E A s s.heap) (hx : p.tables.exec = Jvm.exec) (hb : c.code = cc) (hml : c.maxLocals = nL) (hown : s.vm.findClass own = some m.cls) (hts : ∀ w ∈ lwg, w.before args s = true) (hK : zK G cy s) (hA : ∀ q, s.heap.size ≤ q → A q) (hT : zT G A s.heap H locs ws) (L : zLV own idx y C yc yn ret n) (hM : zNI' E l G cy y yc yn ret d mc ms (.ref b :: As) wc r wc') (isC isR : List Nat) (hnC : va_nd isC = true) (hnR : va_nd isR = true) (hdis : isR.all (fun i => !isC.contains i) = true) (hC : isC.map (fun i => ws[i]?) = wc.map some) (hR : isR.all (fun i => decide (i < ws.length)) = true) (hr : va_O C b A s s.heap) (hd : d < D) (hlen : As.length = n) (hsz : ls.size = nL) (hst : st0 = As.reverse ++ .ref b :: rest) (hw8 : (rest.map fun v => v.category).sum ≤ 8) (hdg : decode cc pc = .ok (.invokevirtual idx, 3)) (hf : cells + mc ≤ (zR D MC MS).cells ∧ slots + ms ≤ (zR D MC MS).slots) (ws2 : (Nat → Nat → Nat) → va_W) (hw2 : ∀ qs, isR.filterMap (fun i => ws[i]?) ++ wc' qs = ws2 qs)
    (kk : ∀ (qs : Nat → Nat → Nat) (H1 : Heap) (locs1 : List Loc), zT G A s.heap H1 locs1 (ws2 qs) → W p l e (zR D MC MS) s m args below meth c H1 locs1 (cells + mc) (slots + ms) Q (F0 m (pc + 3) ls (.int r :: rest))) : W p l e (zR D MC MS) s m args below meth c H locs cells slots Q (F0 m pc ls st0) := by
  have hFc : ∀ q, va_A wc H.size q → A q := va_free hT.2.1 hT.2.2 hA isC hC
  refine va_calli (va_runV (As := As) (rest := rest) ⟨hx, hb, hml, hown, hts⟩ (hM H.size) ⟨callB_of n hts (zgood L.2.2.2.2.1) rfl rfl rfl (hts _ L.2.2.2.1) (hts _ L.1) L.2.2.2.2.2.1 (zroom hd L.2.2.2.2.2.2), hts _ L.2.1, hts _ L.2.2.1⟩ ⟨zPreE_blind hO, zrecvO hr hT.2.2, (z_preE hO hK hE hA hT isC hnC hC).2⟩ rfl hlen hsz hst (lv_room hw8) hdg hf) hT.2.2 (fun q _ h => hFc q h) hFc (fun r9 u t H1 locs1 ht hvm hp hB hz1 hk1 hS => ?_)
  obtain rfl : r9 = r := hp
  obtain ⟨qs, hP1, hD1⟩ := hB
  rw [ht] at hP1
  obtain ⟨hP9, hD9⟩ := va_join (wr := isR.filterMap (fun i => ws[i]?)) (w1 := wc' qs) hT.1 hT.2.1 isC isR hC (zfm hR) hnR (zdis hdis) hk1 hFc hP1 hD1
  exact kk qs H1 locs1 (by rw [← hw2 qs]; exact ⟨hP9, hD9, hS⟩)
theorem z_eSI {r : Int32} (hO : zOk E) (hE : E A s s.heap) (hx : p.tables.exec = Jvm.exec) (hb : c.code = cc) (hml : c.maxLocals = nL) (hown : s.vm.findClass own = some m.cls) (hts : ∀ w ∈ lwg, w.before args s = true) (hK : zK G cy s) (hA : ∀ q, s.heap.size ≤ q → A q) (hT : zT G A s.heap H locs ws) (L : zLS own idx y yc yn ret n) (hM : zNI' E l G cy y yc yn ret d mc ms (As) wc r wc') (isC isR : List Nat) (hnC : va_nd isC = true) (hnR : va_nd isR = true) (hdis : isR.all (fun i => !isC.contains i) = true) (hC : isC.map (fun i => ws[i]?) = wc.map some) (hR : isR.all (fun i => decide (i < ws.length)) = true) (hd : d < D) (hlen : As.length = n) (hsz : ls.size = nL) (hst : st0 = As.reverse ++ rest) (hw8 : (rest.map fun v => v.category).sum ≤ 8) (hdg : decode cc pc = .ok (.invokestatic idx, 3)) (hf : cells + mc ≤ (zR D MC MS).cells ∧ slots + ms ≤ (zR D MC MS).slots) (ws2 : (Nat → Nat → Nat) → va_W) (hw2 : ∀ qs, isR.filterMap (fun i => ws[i]?) ++ wc' qs = ws2 qs)
    (kk : ∀ (qs : Nat → Nat → Nat) (H1 : Heap) (locs1 : List Loc), zT G A s.heap H1 locs1 (ws2 qs) → W p l e (zR D MC MS) s m args below meth c H1 locs1 (cells + mc) (slots + ms) Q (F0 m (pc + 3) ls (.int r :: rest))) : W p l e (zR D MC MS) s m args below meth c H locs cells slots Q (F0 m pc ls st0) := by
  have hFc : ∀ q, va_A wc H.size q → A q := va_free hT.2.1 hT.2.2 hA isC hC
  refine va_calli (va_runS (As := As) (rest := rest) ⟨hx, hb, hml, hown, hts⟩ (hM H.size) ⟨callB_of n hts (zgood L.2.2.2.1) rfl rfl rfl (hts _ L.2.2.1) (hts _ L.1) L.2.2.2.2.1 (zroom hd L.2.2.2.2.2), hts _ L.2.1⟩ (z_preE hO hK hE hA hT isC hnC hC) rfl hlen hsz hst (lv_room hw8) hdg hf) hT.2.2 (fun q _ h => hFc q h) hFc (fun r9 u t H1 locs1 ht hvm hp hB hz1 hk1 hS => ?_)
  obtain rfl : r9 = r := hp
  obtain ⟨qs, hP1, hD1⟩ := hB
  rw [ht] at hP1
  obtain ⟨hP9, hD9⟩ := va_join (wr := isR.filterMap (fun i => ws[i]?)) (w1 := wc' qs) hT.1 hT.2.1 isC isR hC (zfm hR) hnR (zdis hdis) hk1 hFc hP1 hD1
  exact kk qs H1 locs1 (by rw [← hw2 qs]; exact ⟨hP9, hD9, hS⟩)
theorem z_eSV (hO : zOk E) (hE : E A s s.heap) (hx : p.tables.exec = Jvm.exec) (hb : c.code = cc) (hml : c.maxLocals = nL) (hown : s.vm.findClass own = some m.cls) (hts : ∀ w ∈ lwg, w.before args s = true) (hK : zK G cy s) (hA : ∀ q, s.heap.size ≤ q → A q) (hT : zT G A s.heap H locs ws) (L : zLS own idx y yc yn ret n) (hM : zNV' E l G cy y yc yn ret d mc ms (As) wc wc') (isC isR : List Nat) (hnC : va_nd isC = true) (hnR : va_nd isR = true) (hdis : isR.all (fun i => !isC.contains i) = true) (hC : isC.map (fun i => ws[i]?) = wc.map some) (hR : isR.all (fun i => decide (i < ws.length)) = true) (hd : d < D) (hlen : As.length = n) (hsz : ls.size = nL) (hst : st0 = As.reverse ++ rest) (hw8 : (rest.map fun v => v.category).sum ≤ 8) (hdg : decode cc pc = .ok (.invokestatic idx, 3)) (hf : cells + mc ≤ (zR D MC MS).cells ∧ slots + ms ≤ (zR D MC MS).slots) (ws2 : (Nat → Nat → Nat) → va_W) (hw2 : ∀ qs, isR.filterMap (fun i => ws[i]?) ++ wc' qs = ws2 qs)
    (kk : ∀ (qs : Nat → Nat → Nat) (H1 : Heap) (locs1 : List Loc), zT G A s.heap H1 locs1 (ws2 qs) → W p l e (zR D MC MS) s m args below meth c H1 locs1 (cells + mc) (slots + ms) Q (F0 m (pc + 3) ls (rest))) : W p l e (zR D MC MS) s m args below meth c H locs cells slots Q (F0 m pc ls st0) := by
  have hFc : ∀ q, va_A wc H.size q → A q := va_free hT.2.1 hT.2.2 hA isC hC
  refine va_callv (va_runS (As := As) (rest := rest) ⟨hx, hb, hml, hown, hts⟩ (hM H.size) ⟨callB_of n hts (zgood L.2.2.2.1) rfl rfl rfl (hts _ L.2.2.1) (hts _ L.1) L.2.2.2.2.1 (zroom hd L.2.2.2.2.2), hts _ L.2.1⟩ (z_preE hO hK hE hA hT isC hnC hC) rfl hlen hsz hst (lv_room hw8) hdg hf) hT.2.2 (fun q _ h => hFc q h) hFc (fun u t H1 locs1 ht hvm hp hB hz1 hk1 hS => ?_)
  obtain ⟨qs, hP1, hD1⟩ := hB
  rw [ht] at hP1
  obtain ⟨hP9, hD9⟩ := va_join (wr := isR.filterMap (fun i => ws[i]?)) (w1 := wc' qs) hT.1 hT.2.1 isC isR hC (zfm hR) hnR (zdis hdis) hk1 hFc hP1 hD1
  exact kk qs H1 locs1 (by rw [← hw2 qs]; exact ⟨hP9, hD9, hS⟩)
theorem z_eHI {hh : List (Nat × Nat × Nat × Nat)} {r : Int32} (hO : zOk E) (hE : E A s s.heap) (hx : p.tables.exec = Jvm.exec) (hb : c.code = cc) (hml : c.maxLocals = nL) (hown : s.vm.findClass own = some m.cls) (hts : ∀ w ∈ lwg, w.before args s = true) (hK : zK G cy s) (hA : ∀ q, s.heap.size ≤ q → A q) (hT : zT G A s.heap H locs ws) (L : zLH own idx y yc yn hh n) (hM : zHE E l G cy y yc yn hh d (As) wc r wc') (isC isR : List Nat) (hnC : va_nd isC = true) (hnR : va_nd isR = true) (hdis : isR.all (fun i => !isC.contains i) = true) (hC : isC.map (fun i => ws[i]?) = wc.map some) (hR : isR.all (fun i => decide (i < ws.length)) = true) (hd : d < D) (hlen : As.length = n) (hsz : ls.size = nL) (hst : st0 = As.reverse ++ rest) (hw8 : (rest.map fun v => v.category).sum ≤ 8) (hdg : decode cc pc = .ok (.invokestatic idx, 3)) (hf : cells + 1 ≤ (zR D MC MS).cells ∧ slots + 6 ≤ (zR D MC MS).slots) (ws2 : (Nat → Nat → Nat) → va_W) (hw2 : ∀ qs, isR.filterMap (fun i => ws[i]?) ++ wc' qs = ws2 qs)
    (kk : ∀ (qs : Nat → Nat → Nat) (H1 : Heap) (locs1 : List Loc), zT G A s.heap H1 locs1 (ws2 qs) → W p l e (zR D MC MS) s m args below meth c H1 locs1 (cells + 1) (slots + 6) Q (F0 m (pc + 3) ls (.int r :: rest))) : W p l e (zR D MC MS) s m args below meth c H locs cells slots Q (F0 m pc ls st0) := by
  have hFc : ∀ q, va_A wc H.size q → A q := va_free hT.2.1 hT.2.2 hA isC hC
  refine va_calli (vx_runSW (As := As) (rest := rest) (hh := hh) (bytes := yc) (maxL := yn) (ret := some .int) ⟨hx, hb, hml, hown, hts⟩ (hM H.size) (vx_cwSW (hh := hh) (bytes := yc) (maxL := yn) (ret := some .int) n hts (zgoodS L.1 L.2.1 L.2.2.1 (zgood L.2.2.2.1)) rfl rfl rfl L.2.2.2.2.1 (zroom hd L.2.2.2.2.2)) (z_preE hO hK hE hA hT isC hnC hC) rfl hlen hsz hst (lv_room hw8) hdg hf) hT.2.2 (fun q _ h => hFc q h) hFc (fun r9 u t H1 locs1 ht hvm hp hB hz1 hk1 hS => ?_)
  obtain rfl : r9 = r := hp
  obtain ⟨qs, hP1, hD1⟩ := hB
  rw [ht] at hP1
  obtain ⟨hP9, hD9⟩ := va_join (wr := isR.filterMap (fun i => ws[i]?)) (w1 := wc' qs) hT.1 hT.2.1 isC isR hC (zfm hR) hnR (zdis hdis) hk1 hFc hP1 hD1
  exact kk qs H1 locs1 (by rw [← hw2 qs]; exact ⟨hP9, hD9, hS⟩)
end ZCE
def zW (q v : Nat) (A : Nat → Prop) (U : State) (H : Heap) : Prop := va_O "java/lang/String" q A U H ∧ va_OF "java/lang/String" "coder" "B" (.int 0) q A U H ∧ va_OF "java/lang/String" "value" "[B" (.ref v) q A U H ∧ va_T .byte v 6 (fun j => .int (([115, 116, 97, 116, 101, 115] : List Int32).getD j 0)) A U H ∧ va_Z "java/lang/String" "COMPACT_STRINGS" "Z" (.int 1) A U H ∧ va_Zq "jdk/internal/util/Preconditions" "SIOOBE_FORMATTER" "Ljava/util/function/BiFunction;" A U H
def zS (q1 v1 q2 v2 : Nat) (A : Nat → Prop) (U : State) (H : Heap) : Prop := (vk_R "CostBench$Tape" 63 "states" q1 U ∧ vk_R "CostBenchModel" 375 "states" q2 U) ∧ zW q1 v1 A U H ∧ zW q2 v2 A U H
theorem zW_ok {q v : Nat} : zOk (zW q v) := by
  refine ⟨fun A B s U H locs h hS hB hU hW => ?_, fun A U g mk a h => ?_⟩
  · subst hU
    obtain ⟨h1, h2, h3, h4, h5, h6⟩ := h
    have k : ∀ a : Nat, a < s.heap.size → ¬ A a → U.heap[a]? = s.heap[a]? := fun a q1 q2 => hS.2.1 a q1 q2
    exact ⟨va_O.moved hW.alike ((h1.kept k).narrow hB), va_OF.moved hW.alike ((h2.kept k).narrow hB), va_OF.moved hW.alike ((h3.kept k).narrow hB), va_T.moved hW.alike ((h4.kept k).narrow hB), va_Z.moved hW.alike ((h5.kept k).narrow hB), va_Zq.moved hW.alike ((h6.kept k).narrow hB)⟩
  · obtain ⟨h1, h2, h3, h4, h5, h6⟩ := h
    have hm := Vm.Alike.refl U.vm
    exact ⟨va_O.moved (u := U) (U := U.calling g mk a) hm h1, va_OF.moved (u := U) (U := U.calling g mk a) hm h2, va_OF.moved (u := U) (U := U.calling g mk a) hm h3, va_T.moved (u := U) (U := U.calling g mk a) hm h4, va_Z.moved (u := U) (U := U.calling g mk a) hm h5, va_Zq.moved (u := U) (U := U.calling g mk a) hm h6⟩
theorem zS_ok {q1 v1 q2 v2 : Nat} : zOk (zS q1 v1 q2 v2) := by
  refine ⟨fun A B s U H locs h hS hB hU hW => ?_, fun A U g mk a h => ?_⟩
  · exact ⟨⟨vk_R.warm hW h.1.1, vk_R.warm hW h.1.2⟩, zW_ok.1 _ _ _ _ _ _ h.2.1 hS hB hU hW, zW_ok.1 _ _ _ _ _ _ h.2.2 hS hB hU hW⟩
  · exact ⟨⟨vk_R.same rfl h.1.1, vk_R.same rfl h.1.2⟩, zW_ok.2 _ _ _ _ _ h.2.1, zW_ok.2 _ _ _ _ _ h.2.2⟩
theorem w3_237 : (Cond.fieldLink "java/lang/String" (38 : Nat) "java/lang/String" "COMPACT_STRINGS" "Z") ∈ lwg := lwg_t (tb3 237 rfl) rfl
theorem w5_173 : (Cond.fieldLink "java/lang/String" (15 : Nat) "java/lang/String" "coder" "B") ∈ lwg := lwg_t (tb5 173 rfl) rfl
theorem w5_172 : (Cond.fieldLink "java/lang/String" (9 : Nat) "java/lang/String" "value" "[B") ∈ lwg := lwg_t (tb5 172 rfl) rfl
theorem w3_236 : (Cond.code ⟨"java/lang/String", "coder", "()B"⟩ prog_28_method_152_code (1 : Nat) (Option.some FieldType.byte)) ∈ lwg := lwg_t (tb3 236 rfl) rfl
theorem w1_21 : (Cond.initialized "java/lang/String") ∈ lwg := lwg_t (tb1 21 rfl) rfl
theorem w3_233 : (Cond.methodLink "java/lang/String" (335 : Nat) ⟨"java/lang/String", "coder", "()B"⟩) ∈ lwg := lwg_t (tb3 233 rfl) rfl
theorem w3_234 : (Cond.instanceMethod ⟨"java/lang/String", "coder", "()B"⟩) ∈ lwg := lwg_t (tb3 234 rfl) rfl
theorem w3_235 : (Cond.selects "java/lang/String" ⟨"java/lang/String", "coder", "()B"⟩ ⟨"java/lang/String", "coder", "()B"⟩) ∈ lwg := lwg_t (tb3 235 rfl) rfl
theorem w4_13 : (Cond.fieldLink "java/lang/String" (1053 : Nat) "jdk/internal/util/Preconditions" "SIOOBE_FORMATTER" "Ljava/util/function/BiFunction;") ∈ lwg := lwg_t (tb4 13 rfl) rfl
theorem w4_17 : (Cond.code ⟨"jdk/internal/util/Preconditions", "checkIndex", "(IILjava/util/function/BiFunction;)I"⟩ prog_39_method_11_code (3 : Nat) (Option.some FieldType.int)) ∈ lwg := lwg_t (tb4 17 rfl) rfl
theorem w1_23 : (Cond.initialized "jdk/internal/util/Preconditions") ∈ lwg := lwg_t (tb1 23 rfl) rfl
theorem w4_15 : (Cond.methodLink "java/lang/String" (1059 : Nat) ⟨"jdk/internal/util/Preconditions", "checkIndex", "(IILjava/util/function/BiFunction;)I"⟩) ∈ lwg := lwg_t (tb4 15 rfl) rfl
theorem w4_16 : (Cond.static ⟨"jdk/internal/util/Preconditions", "checkIndex", "(IILjava/util/function/BiFunction;)I"⟩) ∈ lwg := lwg_t (tb4 16 rfl) rfl
theorem w4_12 : (Cond.code ⟨"java/lang/String", "checkIndex", "(II)V"⟩ prog_28_method_155_code (2 : Nat) (Option.none : Option FieldType)) ∈ lwg := lwg_t (tb4 12 rfl) rfl
theorem w4_10 : (Cond.methodLink "java/lang/StringLatin1" (9 : Nat) ⟨"java/lang/String", "checkIndex", "(II)V"⟩) ∈ lwg := lwg_t (tb4 10 rfl) rfl
theorem w4_11 : (Cond.static ⟨"java/lang/String", "checkIndex", "(II)V"⟩) ∈ lwg := lwg_t (tb4 11 rfl) rfl
theorem w4_6 : (Cond.code ⟨"java/lang/String", "isLatin1", "()Z"⟩ prog_28_method_154_code (1 : Nat) (Option.some FieldType.boolean)) ∈ lwg := lwg_t (tb4 6 rfl) rfl
theorem w4_3 : (Cond.methodLink "java/lang/String" (492 : Nat) ⟨"java/lang/String", "isLatin1", "()Z"⟩) ∈ lwg := lwg_t (tb4 3 rfl) rfl
theorem w4_4 : (Cond.instanceMethod ⟨"java/lang/String", "isLatin1", "()Z"⟩) ∈ lwg := lwg_t (tb4 4 rfl) rfl
theorem w4_5 : (Cond.selects "java/lang/String" ⟨"java/lang/String", "isLatin1", "()Z"⟩ ⟨"java/lang/String", "isLatin1", "()Z"⟩) ∈ lwg := lwg_t (tb4 5 rfl) rfl
theorem w4_9 : (Cond.code ⟨"java/lang/StringLatin1", "charAt", "([BI)C"⟩ prog_30_method_2_code (2 : Nat) (Option.some FieldType.char)) ∈ lwg := lwg_t (tb4 9 rfl) rfl
theorem w1_22 : (Cond.initialized "java/lang/StringLatin1") ∈ lwg := lwg_t (tb1 22 rfl) rfl
theorem w4_7 : (Cond.methodLink "java/lang/String" (495 : Nat) ⟨"java/lang/StringLatin1", "charAt", "([BI)C"⟩) ∈ lwg := lwg_t (tb4 7 rfl) rfl
theorem w4_8 : (Cond.static ⟨"java/lang/StringLatin1", "charAt", "([BI)C"⟩) ∈ lwg := lwg_t (tb4 8 rfl) rfl
theorem lkV_RJ0_335 : zLV "java/lang/String" 335 yJ0_coder_7d493 "java/lang/String" cJ0_coder_7d493 1 (some .byte) 0 := ⟨w3_233, w3_234, w3_235, w1_21, w3_236, ⟨by decide +kernel, by decide +kernel, by decide +kernel⟩, by decide⟩
theorem lkS_RJ0_1059 : zLS "java/lang/String" 1059 yJ3_checkIndex_8e157 cJ3_checkIndex_8e157 3 (some .int) 3 := ⟨w4_15, w4_16, w1_23, w4_17, ⟨by decide +kernel, by decide +kernel, by decide +kernel⟩, by decide⟩
theorem lkS_RJ1_9 : zLS "java/lang/StringLatin1" 9 yJ0_checkIndex_df160 cJ0_checkIndex_df160 2 none 2 := ⟨w4_10, w4_11, w1_21, w4_12, ⟨by decide +kernel, by decide +kernel, by decide +kernel⟩, by decide⟩
theorem lkV_RJ0_492 : zLV "java/lang/String" 492 yJ0_isLatin1_aae02 "java/lang/String" cJ0_isLatin1_aae02 1 (some .boolean) 0 := ⟨w4_3, w4_4, w4_5, w1_21, w4_6, ⟨by decide +kernel, by decide +kernel, by decide +kernel⟩, by decide⟩
theorem lkS_RJ0_495 : zLS "java/lang/String" 495 yJ1_charAt_3b067 cJ1_charAt_3b067 2 (some .char) 2 := ⟨w4_7, w4_8, w1_22, w4_9, ⟨by decide +kernel, by decide +kernel, by decide +kernel⟩, by decide⟩
theorem dJ0_coder_7d493_0 : decode cJ0_coder_7d493 0 = .ok (.getstatic 38, 3) := by decide +kernel
theorem dJ0_coder_7d493_3 : decode cJ0_coder_7d493 3 = .ok (.ifCond .eq 10, 3) := by decide +kernel
theorem dJ0_coder_7d493_6 : decode cJ0_coder_7d493 6 = .ok (.aload_n 0, 1) := by decide +kernel
theorem dJ0_coder_7d493_7 : decode cJ0_coder_7d493 7 = .ok (.getfield 15, 3) := by decide +kernel
theorem dJ0_coder_7d493_10 : decode cJ0_coder_7d493 10 = .ok (.goto 4, 3) := by decide +kernel
theorem dJ0_coder_7d493_14 : decode cJ0_coder_7d493 14 = .ok (.ireturn, 1) := by decide +kernel
theorem dJ0_length_8abf5_0 : decode cJ0_length_8abf5 0 = .ok (.aload_n 0, 1) := by decide +kernel
theorem dJ0_length_8abf5_1 : decode cJ0_length_8abf5 1 = .ok (.getfield 9, 3) := by decide +kernel
theorem dJ0_length_8abf5_4 : decode cJ0_length_8abf5 4 = .ok (.arraylength, 1) := by decide +kernel
theorem dJ0_length_8abf5_5 : decode cJ0_length_8abf5 5 = .ok (.aload_n 0, 1) := by decide +kernel
theorem dJ0_length_8abf5_6 : decode cJ0_length_8abf5 6 = .ok (.invokevirtual 335, 3) := by decide +kernel
theorem dJ0_length_8abf5_9 : decode cJ0_length_8abf5 9 = .ok (.ishr, 1) := by decide +kernel
theorem dJ0_length_8abf5_10 : decode cJ0_length_8abf5 10 = .ok (.ireturn, 1) := by decide +kernel
theorem dJ0_isLatin1_aae02_0 : decode cJ0_isLatin1_aae02 0 = .ok (.getstatic 38, 3) := by decide +kernel
theorem dJ0_isLatin1_aae02_3 : decode cJ0_isLatin1_aae02 3 = .ok (.ifCond .eq 14, 3) := by decide +kernel
theorem dJ0_isLatin1_aae02_6 : decode cJ0_isLatin1_aae02 6 = .ok (.aload_n 0, 1) := by decide +kernel
theorem dJ0_isLatin1_aae02_7 : decode cJ0_isLatin1_aae02 7 = .ok (.getfield 15, 3) := by decide +kernel
theorem dJ0_isLatin1_aae02_10 : decode cJ0_isLatin1_aae02 10 = .ok (.ifCond .ne 7, 3) := by decide +kernel
theorem dJ0_isLatin1_aae02_13 : decode cJ0_isLatin1_aae02 13 = .ok (.iconst 1, 1) := by decide +kernel
theorem dJ0_isLatin1_aae02_14 : decode cJ0_isLatin1_aae02 14 = .ok (.goto 4, 3) := by decide +kernel
theorem dJ0_isLatin1_aae02_18 : decode cJ0_isLatin1_aae02 18 = .ok (.ireturn, 1) := by decide +kernel
theorem dJ3_checkIndex_8e157_0 : decode cJ3_checkIndex_8e157 0 = .ok (.iload_n 0, 1) := by decide +kernel
theorem dJ3_checkIndex_8e157_1 : decode cJ3_checkIndex_8e157 1 = .ok (.ifCond .lt 8, 3) := by decide +kernel
theorem dJ3_checkIndex_8e157_4 : decode cJ3_checkIndex_8e157 4 = .ok (.iload_n 0, 1) := by decide +kernel
theorem dJ3_checkIndex_8e157_5 : decode cJ3_checkIndex_8e157 5 = .ok (.iload_n 1, 1) := by decide +kernel
theorem dJ3_checkIndex_8e157_6 : decode cJ3_checkIndex_8e157 6 = .ok (.if_icmp .lt 10, 3) := by decide +kernel
theorem dJ3_checkIndex_8e157_16 : decode cJ3_checkIndex_8e157 16 = .ok (.iload_n 0, 1) := by decide +kernel
theorem dJ3_checkIndex_8e157_17 : decode cJ3_checkIndex_8e157 17 = .ok (.ireturn, 1) := by decide +kernel
theorem dJ0_checkIndex_df160_0 : decode cJ0_checkIndex_df160 0 = .ok (.iload_n 0, 1) := by decide +kernel
theorem dJ0_checkIndex_df160_1 : decode cJ0_checkIndex_df160 1 = .ok (.iload_n 1, 1) := by decide +kernel
theorem dJ0_checkIndex_df160_2 : decode cJ0_checkIndex_df160 2 = .ok (.getstatic 1053, 3) := by decide +kernel
theorem dJ0_checkIndex_df160_5 : decode cJ0_checkIndex_df160 5 = .ok (.invokestatic 1059, 3) := by decide +kernel
theorem dJ0_checkIndex_df160_8 : decode cJ0_checkIndex_df160 8 = .ok (.pop, 1) := by decide +kernel
theorem dJ0_checkIndex_df160_9 : decode cJ0_checkIndex_df160 9 = .ok (.return_, 1) := by decide +kernel
theorem dJ1_charAt_3b067_0 : decode cJ1_charAt_3b067 0 = .ok (.iload_n 1, 1) := by decide +kernel
theorem dJ1_charAt_3b067_1 : decode cJ1_charAt_3b067 1 = .ok (.aload_n 0, 1) := by decide +kernel
theorem dJ1_charAt_3b067_2 : decode cJ1_charAt_3b067 2 = .ok (.arraylength, 1) := by decide +kernel
theorem dJ1_charAt_3b067_3 : decode cJ1_charAt_3b067 3 = .ok (.invokestatic 9, 3) := by decide +kernel
theorem dJ1_charAt_3b067_6 : decode cJ1_charAt_3b067 6 = .ok (.aload_n 0, 1) := by decide +kernel
theorem dJ1_charAt_3b067_7 : decode cJ1_charAt_3b067 7 = .ok (.iload_n 1, 1) := by decide +kernel
theorem dJ1_charAt_3b067_8 : decode cJ1_charAt_3b067 8 = .ok (.baload, 1) := by decide +kernel
theorem dJ1_charAt_3b067_9 : decode cJ1_charAt_3b067 9 = .ok (.sipush 255, 3) := by decide +kernel
theorem dJ1_charAt_3b067_12 : decode cJ1_charAt_3b067 12 = .ok (.iand, 1) := by decide +kernel
theorem dJ1_charAt_3b067_13 : decode cJ1_charAt_3b067 13 = .ok (.i2c, 1) := by decide +kernel
theorem dJ1_charAt_3b067_14 : decode cJ1_charAt_3b067 14 = .ok (.ireturn, 1) := by decide +kernel
theorem dJ0_charAt_5068e_0 : decode cJ0_charAt_5068e 0 = .ok (.aload_n 0, 1) := by decide +kernel
theorem dJ0_charAt_5068e_1 : decode cJ0_charAt_5068e 1 = .ok (.invokevirtual 492, 3) := by decide +kernel
theorem dJ0_charAt_5068e_4 : decode cJ0_charAt_5068e 4 = .ok (.ifCond .eq 12, 3) := by decide +kernel
theorem dJ0_charAt_5068e_7 : decode cJ0_charAt_5068e 7 = .ok (.aload_n 0, 1) := by decide +kernel
theorem dJ0_charAt_5068e_8 : decode cJ0_charAt_5068e 8 = .ok (.getfield 9, 3) := by decide +kernel
theorem dJ0_charAt_5068e_11 : decode cJ0_charAt_5068e 11 = .ok (.iload_n 1, 1) := by decide +kernel
theorem dJ0_charAt_5068e_12 : decode cJ0_charAt_5068e 12 = .ok (.invokestatic 495, 3) := by decide +kernel
theorem dJ0_charAt_5068e_15 : decode cJ0_charAt_5068e 15 = .ok (.ireturn, 1) := by decide +kernel

theorem z_zretT {p : Program} {l : Launch} {e : Env} {R : Room} {s : State} {m : MethodId} {args : Array Value} {below : List Frame} {meth : Method} {c : Code} {H : Heap} {locs : List Loc} {cells slots : Nat} {cc : ByteArray} {pc : Nat} {ls : Array Slot} {G : va_G} {A : Nat → Prop} {ws : va_W} {ty : FieldType} (hx : p.tables.exec = Jvm.exec) (hb : c.code = cc) (hr : meth.sig.returnType = some ty) (hlk : meth.locks = false) {ws' : (Nat → Nat → Nat) → va_W} {mc ms : Nat} {v r : Int32} (hT : zT G A s.heap H locs ws) (qs : Nat → Nat → Nat) (is : List Nat) (hn : va_nd is = true) (hs : is.map (fun i => ws[i]?) = (ws' qs).map some) (hv : v = r) (hb2 : narrow ty (.int v) = .int v) (hc : cells ≤ mc) (hm : slots ≤ ms) (hdg : decode cc pc = .ok (.ireturn, 1)) :
    W p l e R s m args below meth c H locs cells slots (MQ below (zQI G A r ws') args s mc ms A) (F0 m pc ls [.int v]) := by
  have h9 := hT.sub is hn hs
  exact W.widen hc hm (W.zret hx hb hr hb2 (fun t ht _ => ⟨⟨v, (), rfl, hv, qs, by rw [ht]; exact h9.1, h9.2.1⟩, h9.2.2.F ht⟩) h9.2.2.2.2 hdg hlk)
set_option maxHeartbeats 4000000 in
theorem ks_coder (l : Launch) (G : va_G) (cy : Nat → ClassId) (q v : Nat) : zNI' (zW q v) l G cy yJ0_coder_7d493 cJ0_coder_7d493 1 (some .byte) 0 0 0 [.ref q] [] 0 (fun _ => []) := by
  refine zN.of (by decide) (Nat.le_of_ble_eq_true rfl) ?_
  intro p e s m args below meth c ls A hx hb hml hown hts hlk hr hl hK hE hA hT
  have hown : s.vm.findClass "java/lang/String" = some m.cls := hown
  have hl : lv_has ls 1 [(0, .ref q)] := hl
  obtain ⟨e1, e2, e3, e4, e5, e6⟩ := id hE
  refine va_gets (pc := 0) hx hb e5 hT.2.2 hown (hts _ w3_237) (fun x h => h) dJ0_coder_7d493_0 ?_
  refine zb_if_eq_f (pc := 3) (tgt := 13) hx hb dJ0_coder_7d493_3 (by decide) (by decide) ?_
  refine lv_aload_n (pc := 6) hx hb dJ0_coder_7d493_6 rfl (lv_at hl 0 rfl) ?_
  refine vk_getf (pc := 7) hx hb e2 hT.2.2 hown (hts _ w5_173) (fun x h => h) dJ0_coder_7d493_7 ?_
  refine lv_goto (pc := 10) (tgt := 14) hx hb dJ0_coder_7d493_10 (by decide) ?_
  exact z_zretT (pc := 14) hx hb hr hlk hT (fun _ _ => 0) [] rfl rfl rfl (by decide) (Nat.le_of_ble_eq_true rfl) (Nat.le_of_ble_eq_true rfl) dJ0_coder_7d493_14
set_option maxHeartbeats 4000000 in
theorem ks_length (l : Launch) (G : va_G) (cy : Nat → ClassId) (q v : Nat) : zNI' (zW q v) l G cy yJ0_length_8abf5 cJ0_length_8abf5 1 (some .int) 1 0 0 [.ref q] [] 6 (fun _ => []) := by
  refine zN.of (by decide) (Nat.le_of_ble_eq_true rfl) ?_
  intro p e s m args below meth c ls A hx hb hml hown hts hlk hr hl hK hE hA hT
  have hown : s.vm.findClass "java/lang/String" = some m.cls := hown
  have hl : lv_has ls 1 [(0, .ref q)] := hl
  obtain ⟨e1, e2, e3, e4, e5, e6⟩ := id hE
  refine lv_aload_n (pc := 0) hx hb dJ0_length_8abf5_0 rfl (lv_at hl 0 rfl) ?_
  refine vk_getf (pc := 1) hx hb e3 hT.2.2 hown (hts _ w5_172) (fun x h => h) dJ0_length_8abf5_1 ?_
  refine va_tlen (pc := 4) (v := 6) hx hb e4 hT.2.2 rfl dJ0_length_8abf5_4 ?_
  refine lv_aload_n (pc := 5) hx hb dJ0_length_8abf5_5 rfl (lv_at hl 0 rfl) ?_
  refine z_eWI (pc := 6) zW_ok hE hx hb hml hown hts hK hA hT lkV_RJ0_335 (ks_coder l G cy q v) [] [] rfl rfl rfl rfl rfl e1 (by decide) rfl hl.1 rfl (Nat.le_of_ble_eq_true rfl) dJ0_length_8abf5_6 ⟨Nat.le_of_ble_eq_true rfl, Nat.le_of_ble_eq_true rfl⟩ (fun _ => []) (fun _ => rfl) (fun _ H locs hT => ?_)
  refine z_ishr (pc := 9) (v := 6) hx hb dJ0_length_8abf5_9 (by decide) ?_
  exact z_iret (pc := 10) hx hb hr hlk hT (fun _ _ => 0) [] rfl rfl rfl (Nat.le_of_ble_eq_true rfl) (Nat.le_of_ble_eq_true rfl) dJ0_length_8abf5_10
set_option maxHeartbeats 4000000 in
theorem ks_latin (l : Launch) (G : va_G) (cy : Nat → ClassId) (q v : Nat) : zNI' (zW q v) l G cy yJ0_isLatin1_aae02 cJ0_isLatin1_aae02 1 (some .boolean) 0 0 0 [.ref q] [] 1 (fun _ => []) := by
  refine zN.of (by decide) (Nat.le_of_ble_eq_true rfl) ?_
  intro p e s m args below meth c ls A hx hb hml hown hts hlk hr hl hK hE hA hT
  have hown : s.vm.findClass "java/lang/String" = some m.cls := hown
  have hl : lv_has ls 1 [(0, .ref q)] := hl
  obtain ⟨e1, e2, e3, e4, e5, e6⟩ := id hE
  refine va_gets (pc := 0) hx hb e5 hT.2.2 hown (hts _ w3_237) (fun x h => h) dJ0_isLatin1_aae02_0 ?_
  refine zb_if_eq_f (pc := 3) (tgt := 17) hx hb dJ0_isLatin1_aae02_3 (by decide) (by decide) ?_
  refine lv_aload_n (pc := 6) hx hb dJ0_isLatin1_aae02_6 rfl (lv_at hl 0 rfl) ?_
  refine vk_getf (pc := 7) hx hb e2 hT.2.2 hown (hts _ w5_173) (fun x h => h) dJ0_isLatin1_aae02_7 ?_
  refine zb_if_ne_f (pc := 10) (tgt := 17) hx hb dJ0_isLatin1_aae02_10 (by decide) (by decide) ?_
  refine lv_iconst (pc := 13) (v := 1) hx hb dJ0_isLatin1_aae02_13 (by decide) ?_
  refine lv_goto (pc := 14) (tgt := 18) hx hb dJ0_isLatin1_aae02_14 (by decide) ?_
  exact z_zretT (pc := 18) hx hb hr hlk hT (fun _ _ => 0) [] rfl rfl rfl (by decide) (Nat.le_of_ble_eq_true rfl) (Nat.le_of_ble_eq_true rfl) dJ0_isLatin1_aae02_18
set_option maxHeartbeats 4000000 in
theorem ks_check (l : Launch) (G : va_G) (cy : Nat → ClassId) (q v : Nat) (w : Value) (hw : w.category = 1) : zNI' (zW q v) l G cy yJ3_checkIndex_8e157 cJ3_checkIndex_8e157 3 (some .int) 0 0 0 [.int 0, .int 6, w] [] 0 (fun _ => []) := by
  refine zN.of (by decide) (by rw [show lg_sl [Value.int 0, Value.int 6, w] = _ from rfl]; cases w <;> first | (exact Nat.le_of_ble_eq_true rfl) | (exact absurd (show (2 : Nat) = 1 from hw) (by decide))) ?_
  intro p e s m args below meth c ls A hx hb hml hown hts hlk hr hl hK hE hA hT
  have hown : s.vm.findClass "jdk/internal/util/Preconditions" = some m.cls := hown
  have hl : lv_has ls 3 [(0, .int 0), (1, .int 6)] := lv_sub hl [0, 1] rfl
  obtain ⟨e1, e2, e3, e4, e5, e6⟩ := id hE
  refine lv_iload_n (pc := 0) hx hb dJ3_checkIndex_8e157_0 rfl (lv_at hl 0 rfl) ?_
  refine zb_if_lt_f (pc := 1) (tgt := 9) hx hb dJ3_checkIndex_8e157_1 (by decide) (by decide) ?_
  refine lv_iload_n (pc := 4) hx hb dJ3_checkIndex_8e157_4 rfl (lv_at hl 0 rfl) ?_
  refine lv_iload_n (pc := 5) hx hb dJ3_checkIndex_8e157_5 rfl (lv_at hl 1 rfl) ?_
  refine zb_icmp_lt_t (pc := 6) (tgt := 16) hx hb dJ3_checkIndex_8e157_6 (by decide) (by decide) ?_
  refine lv_iload_n (pc := 16) hx hb dJ3_checkIndex_8e157_16 rfl (lv_at hl 0 rfl) ?_
  exact z_iret (pc := 17) hx hb hr hlk hT (fun _ _ => 0) [] rfl rfl rfl (Nat.le_of_ble_eq_true rfl) (Nat.le_of_ble_eq_true rfl) dJ3_checkIndex_8e157_17
set_option maxHeartbeats 4000000 in
theorem ks_index (l : Launch) (G : va_G) (cy : Nat → ClassId) (q v : Nat) : zNV' (zW q v) l G cy yJ0_checkIndex_df160 cJ0_checkIndex_df160 2 none 1 0 0 [.int 0, .int 6] [] (fun _ => []) := by
  refine zN.of (by decide) (Nat.le_of_ble_eq_true rfl) ?_
  intro p e s m args below meth c ls A hx hb hml hown hts hlk hr hl hK hE hA hT
  have hown : s.vm.findClass "java/lang/String" = some m.cls := hown
  have hl : lv_has ls 2 [(0, .int 0), (1, .int 6)] := hl
  obtain ⟨e1, e2, e3, e4, e5, e6⟩ := id hE
  refine lv_iload_n (pc := 0) hx hb dJ0_checkIndex_df160_0 rfl (lv_at hl 0 rfl) ?_
  refine lv_iload_n (pc := 1) hx hb dJ0_checkIndex_df160_1 rfl (lv_at hl 1 rfl) ?_
  have e7 : ∃ w : Value, w.category = 1 ∧ va_Z "jdk/internal/util/Preconditions" "SIOOBE_FORMATTER" "Ljava/util/function/BiFunction;" w A s s.heap := by
    rcases e6 with h | ⟨t, h⟩
    · exact ⟨_, rfl, h⟩
    · exact ⟨_, rfl, h⟩
  obtain ⟨w, hw, e7⟩ := e7
  refine va_gets (pc := 2) hx hb e7 hT.2.2 hown (hts _ w4_13) (fun x h => h) dJ0_checkIndex_df160_2 ?_
  refine z_eSI (pc := 5) zW_ok hE hx hb hml hown hts hK hA hT lkS_RJ0_1059 (ks_check l G cy q v w hw) [] [] rfl rfl rfl rfl rfl (by decide) rfl hl.1 rfl (Nat.le_of_ble_eq_true rfl) dJ0_checkIndex_df160_5 ⟨Nat.le_of_ble_eq_true rfl, Nat.le_of_ble_eq_true rfl⟩ (fun _ => []) (fun _ => rfl) (fun _ H locs hT => ?_)
  refine lv_pop (pc := 8) hx hb dJ0_checkIndex_df160_8 rfl ?_
  exact z_vret (pc := 9) hx hb hr hlk hT (fun _ _ => 0) [] rfl rfl (Nat.le_of_ble_eq_true rfl) (Nat.le_of_ble_eq_true rfl) dJ0_checkIndex_df160_9
set_option maxHeartbeats 4000000 in
theorem ks_charL (l : Launch) (G : va_G) (cy : Nat → ClassId) (q v : Nat) : zNI' (zW q v) l G cy yJ1_charAt_3b067 cJ1_charAt_3b067 2 (some .char) 2 0 0 [.ref v, .int 0] [] 115 (fun _ => []) := by
  refine zN.of (by decide) (Nat.le_of_ble_eq_true rfl) ?_
  intro p e s m args below meth c ls A hx hb hml hown hts hlk hr hl hK hE hA hT
  have hown : s.vm.findClass "java/lang/StringLatin1" = some m.cls := hown
  have hl : lv_has ls 2 [(0, .ref v), (1, .int 0)] := hl
  obtain ⟨e1, e2, e3, e4, e5, e6⟩ := id hE
  refine lv_iload_n (pc := 0) hx hb dJ1_charAt_3b067_0 rfl (lv_at hl 1 rfl) ?_
  refine lv_aload_n (pc := 1) hx hb dJ1_charAt_3b067_1 rfl (lv_at hl 0 rfl) ?_
  refine va_tlen (pc := 2) (v := 6) hx hb e4 hT.2.2 rfl dJ1_charAt_3b067_2 ?_
  refine z_eSV (pc := 3) zW_ok hE hx hb hml hown hts hK hA hT lkS_RJ1_9 (ks_index l G cy q v) [] [] rfl rfl rfl rfl rfl (by decide) rfl hl.1 rfl (Nat.le_of_ble_eq_true rfl) dJ1_charAt_3b067_3 ⟨Nat.le_of_ble_eq_true rfl, Nat.le_of_ble_eq_true rfl⟩ (fun _ => []) (fun _ => rfl) (fun _ H locs hT => ?_)
  refine lv_aload_n (pc := 6) hx hb dJ1_charAt_3b067_6 rfl (lv_at hl 0 rfl) ?_
  refine lv_iload_n (pc := 7) hx hb dJ1_charAt_3b067_7 rfl (lv_at hl 1 rfl) ?_
  refine va_tb (pc := 8) (v := .int 115) hx hb e4 hT.2.2 (vp_in_nI (n := 0) (by decide) (by decide)) rfl dJ1_charAt_3b067_8 ?_
  refine lv_sipush (pc := 9) (v := 255) hx hb dJ1_charAt_3b067_9 (by decide) ?_
  refine z_iand (pc := 12) (v := 115) hx hb dJ1_charAt_3b067_12 (by decide) ?_
  refine lv_i2c (pc := 13) (v := 115) hx hb dJ1_charAt_3b067_13 (by decide) ?_
  exact z_zretT (pc := 14) hx hb hr hlk hT (fun _ _ => 0) [] rfl rfl rfl (by decide) (Nat.le_of_ble_eq_true rfl) (Nat.le_of_ble_eq_true rfl) dJ1_charAt_3b067_14
set_option maxHeartbeats 4000000 in
theorem ks_charAt (l : Launch) (G : va_G) (cy : Nat → ClassId) (q v : Nat) : zNI' (zW q v) l G cy yJ0_charAt_5068e cJ0_charAt_5068e 2 (some .char) 3 0 0 [.ref q, .int 0] [] 115 (fun _ => []) := by
  refine zN.of (by decide) (Nat.le_of_ble_eq_true rfl) ?_
  intro p e s m args below meth c ls A hx hb hml hown hts hlk hr hl hK hE hA hT
  have hown : s.vm.findClass "java/lang/String" = some m.cls := hown
  have hl : lv_has ls 2 [(0, .ref q), (1, .int 0)] := hl
  obtain ⟨e1, e2, e3, e4, e5, e6⟩ := id hE
  refine lv_aload_n (pc := 0) hx hb dJ0_charAt_5068e_0 rfl (lv_at hl 0 rfl) ?_
  refine z_eWI (pc := 1) zW_ok hE hx hb hml hown hts hK hA hT lkV_RJ0_492 (ks_latin l G cy q v) [] [] rfl rfl rfl rfl rfl e1 (by decide) rfl hl.1 rfl (Nat.le_of_ble_eq_true rfl) dJ0_charAt_5068e_1 ⟨Nat.le_of_ble_eq_true rfl, Nat.le_of_ble_eq_true rfl⟩ (fun _ => []) (fun _ => rfl) (fun _ H locs hT => ?_)
  refine zb_if_eq_f (pc := 4) (tgt := 16) hx hb dJ0_charAt_5068e_4 (by decide) (by decide) ?_
  refine lv_aload_n (pc := 7) hx hb dJ0_charAt_5068e_7 rfl (lv_at hl 0 rfl) ?_
  refine vk_getf (pc := 8) hx hb e3 hT.2.2 hown (hts _ w5_172) (fun x h => h) dJ0_charAt_5068e_8 ?_
  refine lv_iload_n (pc := 11) hx hb dJ0_charAt_5068e_11 rfl (lv_at hl 1 rfl) ?_
  refine z_eSI (pc := 12) zW_ok hE hx hb hml hown hts hK hA hT lkS_RJ0_495 (ks_charL l G cy q v) [] [] rfl rfl rfl rfl rfl (by decide) rfl hl.1 rfl (Nat.le_of_ble_eq_true rfl) dJ0_charAt_5068e_12 ⟨Nat.le_of_ble_eq_true rfl, Nat.le_of_ble_eq_true rfl⟩ (fun _ => []) (fun _ => rfl) (fun _ H locs hT => ?_)
  exact z_zretT (pc := 15) hx hb hr hlk hT (fun _ _ => 0) [] rfl rfl rfl (by decide) (Nat.le_of_ble_eq_true rfl) (Nat.le_of_ble_eq_true rfl) dJ0_charAt_5068e_15

