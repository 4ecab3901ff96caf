theorem w3_117 : (Cond.classLink "CostBench" (290 : Nat) "java/util/NoSuchElementException") ∈ lwg := lwg_t (tb3 117 rfl) rfl
theorem w1_18 : (Cond.initialized "java/util/NoSuchElementException") ∈ lwg := lwg_t (tb1 18 rfl) rfl
theorem w3_189 : (Cond.classLink "CostBench" (297 : Nat) "java/lang/IllegalArgumentException") ∈ lwg := lwg_t (tb3 189 rfl) rfl
theorem w1_19 : (Cond.initialized "java/lang/IllegalArgumentException") ∈ lwg := lwg_t (tb1 19 rfl) rfl
/-! methods that throw: what they need beside their cells; contracts; the throw; calls of them -/
abbrev zNSE : String := "java/util/NoSuchElementException"
abbrev zIAE : String := "java/lang/IllegalArgumentException"
def zE (A : Nat → Prop) (U : State) (H : Heap) : Prop :=
  (vx_Zq Bundle.tN "UNASSIGNED_STACK" Bundle.steD A U H ∧ vx_Zq Bundle.tN "SUPPRESSED_SENTINEL" Bundle.listD A U H) ∧
  (va_Nw (.castable zNSE zNSE) U ∧ va_Nw (.castable zIAE zIAE) U ∧ va_Nw (.declares (Bundle.initS "java/lang/RuntimeException")) U ∧ va_Nw (.declares (Bundle.initS "java/lang/Exception")) U ∧ va_Nw (.declares (Bundle.initS "java/lang/Throwable")) U) ∧
  va_Nc zIAE zNSE U ∧ (∃ sa, vk_R "CostBench" 292 "no such slot, state or arc" sa U) ∧ (∃ sa, vk_R "CostBench" 299 "a value outside its range" sa U)
theorem zE.call {A B : Nat → Prop} {s U : State} {H : Heap} {locs : List Loc} (h : zE A s s.heap) (hS : va_S A s.heap H locs) (hB : ∀ q, B q → A q) (hU : U.heap = H) (hW : s.WarmedH U.vm) : zE B U U.heap := by
  obtain ⟨⟨h1, h2⟩, ⟨c1, c2, c3, c4, c5⟩, h3, ⟨s1, h4⟩, ⟨s2, h5⟩⟩ := h
  subst hU
  exact ⟨⟨((h1.kept (fun a q1 q2 => hS.2.1 a q1 q2)).narrow hB).moved hW.alike, ((h2.kept (fun a q1 q2 => hS.2.1 a q1 q2)).narrow hB).moved hW.alike⟩, ⟨va_Nw.warmC hW c1, va_Nw.warmC hW c2, va_Nw.warmD hW c3, va_Nw.warmD hW c4, va_Nw.warmD hW c5⟩, va_Nc.moved hW.alike h3, ⟨s1, vk_R.warm hW h4⟩, ⟨s2, vk_R.warm hW h5⟩⟩
theorem zE.blind {A : Nat → Prop} {U : State} {g : JFrame} {mk : MethodId} {a : Array Value} (h : zE A U U.heap) : zE A (U.calling g mk a) (U.calling g mk a).heap := by
  obtain ⟨⟨h1, h2⟩, ⟨c1, c2, c3, c4, c5⟩, h3, ⟨s1, h4⟩, ⟨s2, h5⟩⟩ := h
  exact ⟨⟨h1.moved (u := U) (U := U.calling g mk a) (Vm.Alike.refl U.vm), h2.moved (u := U) (U := U.calling g mk a) (Vm.Alike.refl U.vm)⟩, ⟨va_Nw.same rfl rfl c1, va_Nw.same rfl rfl c2, va_Nw.same rfl rfl c3, va_Nw.same rfl rfl c4, va_Nw.same rfl rfl c5⟩, va_Nc.moved (u := U) (U := U.calling g mk a) (Vm.Alike.refl U.vm) h3, ⟨s1, vk_R.same rfl h4⟩, ⟨s2, vk_R.same rfl h5⟩⟩
def zPreX (G : va_G) (cy : Nat → ClassId) (av : List Value) (sz : Nat) (ws : va_W) : Array Value → State → Prop := va_Pc av (fun U => U.heap.size = sz ∧ va_P G zcl ws U.heap ∧ zK G cy U ∧ va_D (fun _ => True) ws ∧ zE (va_A ws sz) U U.heap)
theorem zPreX_blind {G : va_G} {cy : Nat → ClassId} {av : List Value} {sz : Nat} {ws : va_W} : FrameBlind (zPreX G cy av sz ws) := fun _ _ _ _ q => ⟨q.1, q.2.1, q.2.2.1, q.2.2.2.1.blind, q.2.2.2.2.1, q.2.2.2.2.2.blind⟩
abbrev zXC (E : String) (A : Nat → Prop) : String → State → State → Prop := vx_X (fun (_ : Unit) => True) (fun E9 _ _ => E9 = E) A
abbrev zNV (A : Nat → Prop) : Array Value → State → Outcome → State → Prop := va_Qv (fun (_ : Unit) => False) (fun _ _ => True) A
abbrev zNI (A : Nat → Prop) : Array Value → State → Outcome → State → Prop := va_Qi (fun (_ : Int32) (_ : Unit) => False) (fun _ _ => True) A
abbrev zNJ (A : Nat → Prop) : Array Value → State → Outcome → State → Prop := va_Ql (fun (_ : Int64) (_ : Unit) => False) (fun _ _ => True) A
/-- it throws an E -/
def zX (l : Launch) (G : va_G) (cy : Nat → ClassId) (y : MethodName) (cc : ByteArray) (nL : Nat) (ret : Option FieldType) (d : Nat) (av : List Value) (ws : va_W) (E : String) (N : (Nat → Prop) → Array Value → State → Outcome → State → Prop) : Prop :=
  ∀ sz : Nat, vx_Met l y (Cond.code y cc nL ret :: lwg) (zR d 1 6) (zPreX G cy av sz ws) (N (va_A ws sz)) (zXC E (va_A ws sz)) 1 6 (va_A ws sz)
theorem zX.of {l : Launch} {G : va_G} {cy : Nat → ClassId} {y : MethodName} {cc : ByteArray} {nL : Nat} {ret : Option FieldType} {d : Nat} {av : List Value} {ws : va_W} {E : String} {N : (Nat → Prop) → Array Value → State → Outcome → State → Prop}
    (hy : plainName y.cls = true) (hlen : (lg_sl av).length ≤ nL)
    (body : ∀ (p : Program) (e : Env) (s : State) (m : MethodId) (args : Array Value) (below : List Frame) (meth : Method) (c : Code) (ls : Array Slot) (A : Nat → Prop), p.tables.exec = Jvm.exec → c.code = cc → c.maxLocals = nL → s.vm.findClass y.cls = some m.cls → (∀ w ∈ lwg, w.before args s = true) → meth.locks = false → (∀ x ∈ c.exceptionTable.toList, False) →
      lv_has ls nL (lv_args 0 av) → zK G cy s → zE A s s.heap → (∀ q, s.heap.size ≤ q → A q) → zT G A s.heap s.heap [] ws →
      W p l e (zR d 1 6) s m args below meth c s.heap [] 0 0 (vx_MQ below (N A) (zXC E A) args s 1 6 A) (F0 m 0 ls [])) : zX l G cy y cc nL ret d av ws E N := by
  intro sz
  refine vx_ofW (cc := cc) (maxL := nL) (ret := ret) hy rfl ?_
  intro p e s m args below meth c s₁ B hml htab hv
  obtain ⟨rfl, hsz, hP, hK, hD0, hE⟩ := hv
  subst hsz
  have hts := atoms_spec (ws := Cond.code y cc nL ret :: lwg) B.pre
  rw [lg_entry_eq]
  exact body p e s m _ below meth c _ _ B.exec B.bytes hml (findClass_of_methodNamed B.named) (fun w h => hts w (List.mem_cons_of_mem _ h)) B.notSynchronized htab (lv_entry av hlen) hK hE (fun q h => Or.inr h) ⟨hP, hD0.self, va_S.rf⟩
abbrev zAtA : List Cond := vx_atS "CostBench" 301 zIAE ["java/lang/RuntimeException", "java/lang/Exception"]
set_option maxRecDepth 100000 in
theorem zAtA_g : ∀ w ∈ zAtA.filter goodWord, w ∈ lwg := by
  have h : (zAtA.filter goodWord).all (fun w => decide (w ∈ tables_1)) = true := by decide +kernel
  intro w hw
  exact lwg_t (of_decide_eq_true (List.all_eq_true.mp h w hw)) (List.mem_filter.mp hw).2
abbrev zBn (X : String) : List Cond := [.castable X X, .declares (Bundle.initS "java/lang/RuntimeException"), .declares (Bundle.initS "java/lang/Exception"), .declares (Bundle.initS "java/lang/Throwable")]
theorem zAtA_b : ∀ w ∈ zAtA.filter (fun w => !goodWord w), w ∈ zBn zIAE := by decide +kernel
theorem zAtA_o : ∀ w ∈ Cond.classLink "CostBench" 297 zIAE :: Cond.initialized zIAE :: zAtA, vx_ot w = true := by decide +kernel
/-! NoSuchElementException's own constructor calls its super by entry 13, not by 7 as the kit's rows of a throw take it: the same walk with that entry (it follows ctorThrowS of JvmDerived/BundleOwnThrow.lean and vx_throwSW of the printed names) -/
def zsix : ByteArray := ⟨#[0x2a, 0x2b, 0xb7, 0x00, 0x0d, 0xb1]⟩
theorem zsix_0 : decode zsix 0 = .ok (.aload_n 0, 1) := by decide +kernel
theorem zsix_1 : decode zsix 1 = .ok (.aload_n 1, 1) := by decide +kernel
theorem zsix_2 : decode zsix 2 = .ok (.invokespecial 13, 3) := by decide +kernel
theorem zsix_5 : decode zsix 5 = .ok (.return_, 1) := by decide +kernel
abbrev zRTE : String := "java/lang/RuntimeException"
abbrev zpass : List Cond := Bundle.passSAtoms zNSE zRTE 13 zsix
abbrev zchain : List Cond := Bundle.chainSAtoms zRTE ["java/lang/Exception"]
def z13 : List Cond := Bundle.throwableAtoms ++ Bundle.throwableSAtoms ++ zpass ++ zchain ++ [.methodLink "CostBench" 294 (Bundle.initS zNSE), .instantiable zNSE 6, .castable zNSE zNSE, .selects zNSE Bundle.tFill0 Bundle.tFill0, .selects zNSE Bundle.tFill Bundle.tFill, .lays zNSE Bundle.tN "cause" "Ljava/lang/Throwable;", .lays zNSE Bundle.tN "stackTrace" Bundle.steD, .lays zNSE Bundle.tN "suppressedExceptions" Bundle.listD, .lays zNSE Bundle.tN "detailMessage" "Ljava/lang/String;", .isRef (.static Bundle.tN "UNASSIGNED_STACK" Bundle.steD), .isRef (.static Bundle.tN "SUPPRESSED_SENTINEL" Bundle.listD), .fieldLink Bundle.tN 198 Bundle.tN "backtrace" "Ljava/lang/Object;", .lays Bundle.tN Bundle.tN "backtrace" "Ljava/lang/Object;", .lays zNSE Bundle.tN "backtrace" "Ljava/lang/Object;"]
section ZCT
variable {p : Program} {l : Launch} {e : Env} {R : Room} {s : State} {m₀ : MethodId} {args : Array Value} {below : List Frame} {meth : Method} {c : Code} {V : State} {locs : List Loc} {cells slots : Nat}
set_option maxHeartbeats 4000000 in
theorem zct (X : Stand p l e R s m₀ args below meth c V locs cells slots) (hexec : p.tables.exec = Jvm.exec) (htr : e.platform.stackTraces = false) (hown : s.vm.findClass "CostBench" = some m₀.cls) (h : ∀ a ∈ z13, a.before args s = true) (hlocs : ∀ x ∈ locs, ∀ cell, s.heap[x.base]? = some cell → cell.vm.isStatics = false)
    {a : Addr} {cX : ClassId} {kX : Class} (hfoundX : s.vm.findClass zNSE = some cX) (hkX : s.vm.classes[cX]? = some kX) (hcell : V.heap[a]? = some (freshCell cX kX)) (hnew : s.heap.size ≤ a) {msg : Value} (hmsg : msg.isRef = true)
    {g : JFrame} (hg : g.method = m₀) (hsize : g.locals.size = c.maxLocals) (hlocked : g.locked = none) (hentered : g.entered = []) {rest : List Value} (hstack : g.stack = msg :: .ref a :: .ref a :: rest)
    (hd6 : decode c.code g.pc = .ok (.invokespecial 294, 3)) (hd9 : decode c.code (g.pc + 3) = .ok (.athrow, 1)) (hout : ∀ x ∈ c.exceptionTable.toList, covers x (g.pc + 3) = false)
    (hRframes : 2 + 3 < R.frames) (hRlocals : 2 * g.monitorRoom + ((Value.ref a :: rest).map fun v => v.category).sum + (13 * (2 + 1) + 42) ≤ R.locals) (hlocks : meth.locks = false) :
    ∃ U : State, Steps p.tables e below (V.setTop g) U ∧ U.status = .running ∧ Ended U below (.threw a) ∧ s.WarmedH U.vm ∧ s.sameButNew ({ U with vm := s.vm } : State) locs cells slots ∧ ∃ ce, U.heap[a]? = some ce ∧ ce.vm = .none ∧ s.vm.findClass zNSE = some ce.cls := by
  have howns : e.platform.frameOwnsMonitors = true := by rw [X.admits.platform]
  have hfin : e.platform.finalization = false := by rw [X.admits.platform]
  have hpl : e.platform.magicAccessors = ({} : Platform).magicAccessors := by rw [X.admits.platform]
  have a' : ∀ x, x ∈ z13 → x.holds args s none s [] = true := fun x hx => h x hx
  obtain ⟨T, Z0, L, -, Y⟩ := ThrowableC.of_atoms (args := args) howns hfin hpl (fun x hx => h x (by simp [z13, hx]))
  obtain ⟨Z, M, LZ, LM, hnZ⟩ := Init0T.ofS_atoms (args := args) hpl L Y (fun x hx => h x (by simp [z13, hx]))
  obtain ⟨P0, L0, hm0, hs0⟩ := PassC.ofS_atoms (args := args) (s := s) hpl (X := zNSE) (Y := zRTE) (by decide) (by decide) zsix_0 zsix_1 zsix_2 zsix_5 (fun c hc => h c (by simp only [z13, List.mem_append]; exact Or.inl (Or.inl (Or.inr hc))))
  obtain ⟨P1, Ps, hlen, L1, hL, hP1m, hlink1, hlink⟩ := Bundle.chainS (args := args) hpl hnZ ["java/lang/Exception"] zRTE (by decide) (by decide) (fun x hx => h x (by simp only [z13, List.mem_append]; exact Or.inl (Or.inr hx)))
  have hfound : s.vm.findClass zNSE = some P0.m.cls := findClass_of_methodNamed hm0
  cases Option.some.inj (hfoundX.symm.trans hfound)
  obtain ⟨c1, kX', hc1, hk, hord, -, -, hn6⟩ := Cond.instantiable_spec (a' (.instantiable zNSE 6) (by simp [z13]))
  cases Option.some.inj (hc1.symm.trans hfound)
  cases Option.some.inj (hkX.symm.trans hk)
  have hsel0 : selectMethod e.platform s.vm P0.m.cls T.fill0 = .method T.fill0 := by
    obtain ⟨c2, r2, m2, q1, q2, q3, q4, -⟩ := Cond.selects_spec (a' (.selects zNSE Bundle.tFill0 Bundle.tFill0) (by simp [z13]))
    cases Option.some.inj (q1.symm.trans hfound)
    cases Option.some.inj (q2.symm.trans (State.methodFound?_of_named Y.fill0 (by decide)))
    cases Option.some.inj (q3.symm.trans Y.fill0)
    rw [Launch.admits_selectMethod X.admits]
    exact q4
  have hselF : selectMethod e.platform s.vm P0.m.cls T.fill = .method T.fill := by
    obtain ⟨c2, r2, m2, q1, q2, q3, q4, -⟩ := Cond.selects_spec (a' (.selects zNSE Bundle.tFill Bundle.tFill) (by simp [z13]))
    cases Option.some.inj (q1.symm.trans hfound)
    cases Option.some.inj (q2.symm.trans (State.methodFound?_of_named Y.fill (by decide)))
    cases Option.some.inj (q3.symm.trans Y.fill)
    rw [Launch.admits_selectMethod X.admits]
    exact q4
  obtain ⟨cellS0, hcS0, hiss⟩ := Y.statics
  obtain ⟨u0, hu0⟩ := Cond.staticRefV Y.unassigned L.unassignedStatic L.statics hcS0 hiss (a' (.isRef (.static Bundle.tN "UNASSIGNED_STACK" Bundle.steD)) (by simp [z13]))
  obtain ⟨sen, hsen⟩ := Cond.staticRefV Y.sentinel L.sentinelStatic L.statics hcS0 hiss (a' (.isRef (.static Bundle.tN "SUPPRESSED_SENTINEL" Bundle.listD)) (by simp [z13]))
  obtain ⟨ci198, i198, fB, hk198, hg198, ha198, hsB, -, hnB, htB, hffB⟩ := Cond.ownField (t := .object "java/lang/Object") Y.found L.cls (by decide +kernel) (a' (.fieldLink Bundle.tN 198 Bundle.tN "backtrace" "Ljava/lang/Object;") (by simp [z13])) (a' (.lays Bundle.tN Bundle.tN "backtrace" "Ljava/lang/Object;") (by simp [z13])) e.platform hpl
  obtain ⟨cellS, hcS', heS, -, hkeep⟩ := X.same.2.2.2.2.2 T.aS cellS0 hcS0
  have hcellS : V.heap[T.aS]? = some cellS := hcS'
  have hout' : ∀ i, (⟨T.aS, i⟩ : Loc) ∉ locs := fun i hmem => by
    have := hlocs _ hmem cellS0 hcS0
    rw [hiss] at this
    cases this
  have hknownS : cellS.vm ≠ .unknown := by
    rw [heS]
    intro hu
    rw [show cellS0.vm = .unknown from hu] at hiss
    cases hiss
  have hneS : T.aS ≠ a := Nat.ne_of_lt (Nat.lt_of_lt_of_le (Array.getElem?_eq_some_iff.mp hcS0).1 hnew)
  obtain ⟨iM, hffM⟩ := Y.msg
  obtain ⟨tyC, dC, hdC, hdnC⟩ := Cond.laysAt hfound hk Y.cause (a' (.lays zNSE Bundle.tN "cause" "Ljava/lang/Throwable;") (by simp [z13]))
  obtain ⟨tyS, dS, hdS, hdnS⟩ := Cond.laysAt hfound hk Y.stack (a' (.lays zNSE Bundle.tN "stackTrace" Bundle.steD) (by simp [z13]))
  obtain ⟨tyP, dP, hdP, hdnP⟩ := Cond.laysAt hfound hk Y.supp (a' (.lays zNSE Bundle.tN "suppressedExceptions" Bundle.listD) (by simp [z13]))
  obtain ⟨tyM, dM, hdM, hdnM⟩ := Cond.laysAt hfound hk hffM (a' (.lays zNSE Bundle.tN "detailMessage" "Ljava/lang/String;") (by simp [z13]))
  obtain ⟨tyB, dB, hdB, hdnB⟩ := Cond.laysAt hfound hk hffB (a' (.lays zNSE Bundle.tN "backtrace" "Ljava/lang/Object;") (by simp [z13]))
  have bC := Cond.laysApart hdB hdC hdnB hdnC (by rw [hnB, Y.causeName]; decide)
  have bS := Cond.laysApart hdB hdS hdnB hdnS (by rw [hnB, Y.stackName]; decide)
  have bP := Cond.laysApart hdB hdP hdnB hdnP (by rw [hnB, Y.suppName]; decide)
  have hskip : SkipFacts T e.platform s (fun u => u) u0 ((preparedCellV T.toThrowableT (freshCell P0.m.cls kX) a u0 sen).withEntry V.cur) :=
    ⟨{ ci198 := ci198, i198 := i198, fBack := fB }, ⟨hk198, hg198, ha198, hsB⟩, by
      have := fresh_default (c := P0.m.cls) tyB
      rw [htB] at this
      simpa [preparedCellV, Cell.setSlot, Cell.withEntry, Array.getElem?_setIfInBounds, bC, bS, bP, bC.symm, bS.symm, bP.symm, defaultValue] using this, fun _ _ => rfl⟩
  obtain ⟨tm, methC, cdC, kC, vm₁, hnC, -, -, -, -, -, -, -, hW₁, st1⟩ := Steps.initColdS (tb := p.tables) (e := e) (below := below) (s := s) (U := V) X.here hexec X.warmed hpl hown (t := Bundle.initS zNSE) rfl rfl (by decide) (a' (.methodLink "CostBench" 294 (Bundle.initS zNSE)) (by simp [z13])) (h (.instanceMethod (Bundle.initS zNSE)) (by simp [z13, Bundle.passSAtoms])) (bytes := zsix) (maxL := 2) (h (.code (Bundle.initS zNSE) zsix 2 none) (by simp [z13, Bundle.passSAtoms]))
    (f := g) hg (a := a) (msg := msg) (rest := .ref a :: rest) hstack hd6
  cases Option.some.inj (hnC.symm.trans hm0)
  have X₁ := X.noted hW₁
  have hl2 : Ps.length = 1 := hlen
  obtain ⟨vm₂, X₂, st2⟩ := X₁.ctorMessageOffV hexec (g := { g with stack := .ref a :: rest }) hg hsize T L Z LZ M LM (P0 :: P1 :: Ps)
    (fun P hP => by
      rcases List.mem_cons.mp hP with rfl | hP
      · exact L0
      · rcases List.mem_cons.mp hP with rfl | hP
        · exact L1
        · exact hL P hP) ⟨Option.some.inj (hs0.symm.trans hP1m), hlink1, hlink⟩ (u0 := u0) (sen := sen) (self := a) hmsg (cell := freshCell P0.m.cls kX) (cellS := cellS)
    hcell (fun _ => by simp) (by simp) rfl rfl hsel0 hselF hcellS hneS hknownS (by rw [hkeep _ (hout' _)]; exact hu0) (by rw [hkeep _ (hout' _)]; exact hsen)
    (Takes.of_laid hk hord tyC (by rw [Y.causeType]; rfl)) (Takes.of_laid hk hord tyS (by rw [Y.stackType]; exact fits_refV_array _ u0)) (Takes.of_laid hk hord tyP (by rw [Y.suppType]; exact fits_refV_object _ sen))
    (Takes.of_laid hk hord tyM (by rw [Y.msgType]; exact fits_refV_object _ ⟨msg, hmsg⟩)) Y.objLocals hskip htr [] hd6
    (by simp only [List.length_cons, hl2]; omega) (by simp only [List.length_cons, hl2]; exact hRlocals)
  obtain ⟨hwalk, hrun, hended, hWU, hsame⟩ := X₂.athrowLeaves hexec (g := { g with stack := .ref a :: rest, pc := g.pc + 3 }) hg hlocked hentered hout (a := a) (rest := rest) rfl hd9
  have hlt : a < ((V.setVm vm₁).setVm vm₂).heap.size := (Array.getElem?_eq_some_iff.mp hcell).1
  have hU := heapAt_setCell_self (s := (V.setVm vm₁).setVm vm₂) (plainBareV T.toThrowableT (freshCell P0.m.cls kX) a u0 sen msg) hlt
  refine ⟨_, st1 _ (fun acts => ?_), hrun, hended, hWU, hsame.weaken (fun y hy hlt' => ?_) (Nat.le_refl _) (Nat.le_refl _), _, hU, rfl, hfound⟩
  · rw [doInvoke_state]
    exact st2 _ hwalk
  · rcases List.mem_append.mp hy with h1 | h1
    · exact h1
    · exfalso
      have hb : y.base = a := by
        simp only [List.mem_cons, List.not_mem_nil, or_false] at h1
        rcases h1 with rfl | rfl | rfl | rfl | rfl <;> rfl
      rw [hb] at hlt'
      exact Nat.not_lt.mpr hnew hlt'
end ZCT
set_option maxRecDepth 100000 in
theorem z13_g : ∀ w ∈ (z13.filter vx_no).filter goodWord, w ∈ lwg := by
  have h : ((z13.filter vx_no).filter goodWord).all (fun w => decide (w ∈ tables_1)) = true := by decide +kernel
  intro w hw
  exact lwg_t (of_decide_eq_true (List.all_eq_true.mp h w hw)) (List.mem_filter.mp hw).2
theorem z13_b : ∀ w ∈ (z13.filter vx_no).filter (fun w => !goodWord w), w ∈ zBn zNSE := by decide +kernel
theorem z13_o : ∀ w ∈ Cond.classLink "CostBench" 290 zNSE :: Cond.initialized zNSE :: z13.filter vx_no, vx_ot w = true := by decide +kernel
section ZTN
variable {p : Program} {l : Launch} {e : Env} {R : Room} {s : State} {m : MethodId} {args : Array Value} {below : List Frame} {meth : Method} {c : Code} {H : Heap} {locs : List Loc} {cells slots : Nat} {free : Addr → Prop} {ls : Array Slot} {rest : List Value} {Qc : Array Value → State → Outcome → State → Prop} {XC : String → State → State → Prop}
theorem zthrow13 {cc : ByteArray} {pc : Nat} (hexec : p.tables.exec = Jvm.exec) (hb : c.code = cc) (hl : l.stackTraces = false) {mc ms sa : Nat} {A : Nat → Prop} (hown : s.vm.findClass "CostBench" = some m.cls)
    (hk : (Cond.classLink "CostBench" 290 zNSE).before args s = true) (hini : (Cond.initialized zNSE).before args s = true) (hstr : vk_R "CostBench" 292 "no such slot, state or arc" sa s) (hat : ∀ w ∈ z13.filter vx_no, w.before args s = true)
    (hgood : ∀ w ∈ Cond.classLink "CostBench" 290 zNSE :: Cond.initialized zNSE :: z13.filter vx_no, vx_ot w = true)
    (hU : vx_Zq Bundle.tN "UNASSIGNED_STACK" Bundle.steD A s s.heap) (hN : vx_Zq Bundle.tN "SUPPRESSED_SENTINEL" Bundle.listD A s s.heap) (hS : va_S A s.heap H locs) (hsize : ls.size = c.maxLocals)
    (d0 : decode cc pc = .ok (.new 290, 3)) (d3 : decode cc (pc + 3) = .ok (.dup, 1)) (d4 : decode cc (pc + 4) = .ok (.ldc_w 292, 3)) (d7 : decode cc (pc + 7) = .ok (.invokespecial 294, 3)) (d10 : decode cc (pc + 10) = .ok (.athrow, 1))
    (hout : ∀ x ∈ c.exceptionTable.toList, covers x (pc + 10) = false)
    (hRframes : 2 + 3 < R.frames) (hRlocals : (rest.map fun v => v.category).sum + (13 * (2 + 1) + 43) ≤ R.locals) (hRcells : cells + 1 ≤ R.cells) (hRslots : slots + 6 ≤ R.slots) (hlocks : meth.locks = false)
    (hx : ∀ t : State, s.vm.Alike t.vm → H.size ≤ t.heap.size → (∀ q : Nat, q < H.size → t.heap[q]? = H[q]?) → XC zNSE s t)
    (hf : ∀ z ∈ locs, free z.base) (hc : cells + 1 ≤ mc) (hs : slots + 6 ≤ ms) :
    W p l e R s m args below meth c H locs cells slots (vx_MQ below Qc XC args s mc ms free) (F0 m pc ls rest) := by
  intro T hT X
  have htr : e.platform.stackTraces = false := (show e.platform.stackTraces = l.stackTraces by rw [X.admits.platform]).trans hl
  have Y := vx_rebase X (R' := { frames := R.frames, locals := R.locals, cells := 1, slots := 6 }) (Nat.le_refl _) (Nat.le_refl _) hRcells hRslots
  obtain ⟨s', hA⟩ : ∃ z, z = (T.setVm s.vm).setFrames (.invoking m args :: below) := ⟨_, rfl⟩
  rw [← hA] at Y
  have hvm : s'.vm = s.vm := by rw [hA]; rfl
  have hhp : s'.heap = H := by rw [hA]; exact hT
  have hW0 : s.WarmedH s'.vm := by rw [hvm]; exact State.WarmedH.refl s
  have hat' : ∀ w ∈ z13.filter vx_no, w.before args s' = true := fun w hw => vx_ot_at hW0 hvm.symm (hgood w (List.mem_cons_of_mem _ (List.mem_cons_of_mem _ hw))) (hat w hw)
  have hk' : (Cond.classLink "CostBench" 290 zNSE).before args s' = true := vx_ot_at hW0 hvm.symm (hgood _ List.mem_cons_self) hk
  have hini' : (Cond.initialized zNSE).before args s' = true := vx_ot_at hW0 hvm.symm (hgood _ (List.mem_cons_of_mem _ List.mem_cons_self)) hini
  have hU' : vx_Zq Bundle.tN "UNASSIGNED_STACK" Bundle.steD A s' s'.heap := by rw [hhp]; exact vx_Zq.moved hW0.alike (hU.kept hS.2.1)
  have hN' : vx_Zq Bundle.tN "SUPPRESSED_SENTINEL" Bundle.listD A s' s'.heap := by rw [hhp]; exact vx_Zq.moved hW0.alike (hN.kept hS.2.1)
  have h : ∀ w ∈ z13, w.before args s' = true := vx_own hat' (vx_isRefq hU'.1) (vx_isRefq hN'.1) hU'.2.word hN'.2.word
  have hown' : s'.vm.findClass "CostBench" = some m.cls := by rw [hvm]; exact hown
  have hins : (Cond.instantiable zNSE 6).before args s' = true := h _ (by simp [z13])
  obtain ⟨vm₁, cX, kX, hfX, hkX, -, -, X₁, st1⟩ := Y.newCold hexec (own := "CostBench") (C := zNSE) (index := 290) (n := 6) hown' hk' hins hini'
    (g := F0 m pc ls rest) rfl (by rw [hb]; exact d0) (Nat.le_refl _) (Nat.le_refl _)
  generalize hT1 : (T.setVm vm₁).pushCell { cls := cX, slots := kX.instanceTypes.map defaultValue, vm := .none } = T1 at X₁ st1
  have hcat : (Value.ref T.heap.size).category = 1 := rfl
  have hcellA : T1.heap[T.heap.size]? = some (freshCell cX kX) := by rw [← hT1]; exact State.heap_pushCell_size _ _
  have d3' : decode c.code (pc + 3) = .ok (.dup, 1) := by rw [hb]; exact d3
  have d4' : decode c.code (pc + 4) = .ok (.ldc_w 292, 3) := by rw [hb]; exact d4
  have hstr' : vk_R "CostBench" 292 "no such slot, state or arc" sa s' := vk_R.warm hW0 hstr
  obtain ⟨U, hsteps, hrun, hend, hW, hsame, ce, hce, hOv, hOc⟩ := zct X₁ hexec htr hown' h (fun x hx => nomatch hx) hfX hkX hcellA (by rw [hhp, hT]; exact Nat.le_refl _) (msg := .ref sa) rfl
    (g := { method := m, pc := pc + 7, locals := ls, stack := .ref sa :: .ref T.heap.size :: .ref T.heap.size :: rest, locked := none }) rfl hsize rfl rfl (rest := rest) rfl
    (by rw [hb]; exact d7) (by rw [hb]; exact d10) hout hRframes (by simp only [List.map_cons, List.sum_cons, hcat]; omega) hlocks
  obtain ⟨f1, f2⟩ := vx_frame hsame
  rw [hhp] at f1 f2
  have hWs : s.WarmedH U.vm := State.WarmedH.trans hW0 hW
  have hcl : s.vm.findClass zNSE = some ce.cls := by
    have h9 := hOc
    rw [hvm] at h9
    exact h9
  have hall : s.sameButNew ({ U with vm := s.vm } : State) locs mc ms := by
    subst hA
    obtain ⟨e1, e2⟩ := hsame
    rw [State.setFrames_setFrames] at e1
    have h2 : (T.setVm s.vm).sameButNew ({ U with vm := s.vm } : State) [] (0 + 1) (0 + 6) := ⟨e1, e2⟩
    have h3 := X.same.trans h2
    rw [List.append_nil] at h3
    exact h3.mono hc hs
  refine ⟨U, ?_, .threw T.heap.size, hrun, hend, Or.inr ⟨T.heap.size, rfl, zNSE, ce, locs, hx U hWs.alike f1 (fun q hq => f2 q hq (fun z hz => nomatch hz)), hce, hOv, hcl, hWs, hall, hf⟩⟩
  refine st1 _ ?_
  show Steps p.tables e below (T1.setTop { method := m, pc := pc + 3, locals := ls, stack := .ref T.heap.size :: rest, locked := none }) _
  jvm_step X₁.here [X₁.here.top, hexec, d3', Value.category]
  exact X₁.ldcStringW hexec (own := "CostBench") (text := "no such slot, state or arc") (index := 292) (a := sa) hown' hstr'.1 hstr'.2
    (g := { method := m, pc := pc + 4, locals := ls, stack := .ref T.heap.size :: .ref T.heap.size :: rest, locked := none }) rfl d4' _ hsteps
end ZTN
section ZTH
variable {p : Program} {l : Launch} {e : Env} {s : State} {m : MethodId} {args : Array Value} {below : List Frame} {meth : Method} {c : Code} {H : Heap} {locs : List Loc} {cells slots D : Nat}
variable {cc : ByteArray} {pc nL : Nat} {ls : Array Slot} {rest : List Value} {G : va_G} {cy : Nat → ClassId} {A : Nat → Prop} {ws : va_W} {Qc : Array Value → State → Outcome → State → Prop}
theorem zFof {t : State} (hS : va_S A s.heap H locs) (h1 : H.size ≤ t.heap.size) (h2 : ∀ q : Nat, q < H.size → t.heap[q]? = H[q]?) : va_F A s t :=
  ⟨Nat.le_trans hS.1 h1, fun q h3 h4 => by rw [h2 q (Nat.lt_of_lt_of_le h3 hS.1)]; exact hS.2.1 q h3 h4⟩
theorem z_throwN (hl0 : l.stackTraces = false) (hx : p.tables.exec = Jvm.exec) (hb : c.code = cc) (hml : c.maxLocals = nL) (hown : s.vm.findClass "CostBench" = some m.cls) (hts : ∀ w ∈ lwg, w.before args s = true) (hlk : meth.locks = false) (htab : ∀ x ∈ c.exceptionTable.toList, False) (hE : zE A s s.heap) (hT : zT G A s.heap H locs ws) (hsz : ls.size = nL) (hw8 : (rest.map fun v => v.category).sum ≤ 8) (hc : cells ≤ 0) (hs : slots ≤ 0)
    (d0 : decode cc pc = .ok (.new 290, 3)) (d3 : decode cc (pc + 3) = .ok (.dup, 1)) (d4 : decode cc (pc + 4) = .ok (.ldc_w 292, 3)) (d7 : decode cc (pc + 7) = .ok (.invokespecial 294, 3)) (d10 : decode cc (pc + 10) = .ok (.athrow, 1)) :
    W p l e (zR D 1 6) s m args below meth c H locs cells slots (vx_MQ below Qc (zXC zNSE A) args s 1 6 A) (F0 m pc ls rest) := by
  obtain ⟨⟨h1, h2⟩, ⟨c1, c2, c3, c4, c5⟩, h3, ⟨s1, h4⟩, ⟨s2, h5⟩⟩ := hE
  exact zthrow13 hx hb hl0 hown (hts _ w3_117) (hts _ w1_18) h4 (vx_hat (fun w hw => hts w (z13_g w hw)) z13_b (vx_c (va_Nw.use rfl c1) (vx_c (va_Nw.use rfl c3) (vx_c (va_Nw.use rfl c4) (vx_c (va_Nw.use rfl c5) vx_n))))) z13_o h1 h2 hT.2.2 (by rw [hml]; exact hsz) d0 d3 d4 d7 d10 (fun x hx9 => (htab x hx9).elim) (by simp only [zR]; omega) (by simp only [zR]; omega) (by simp only [zR]; omega) (by simp only [zR]; omega) hlk (fun t _ q1 q2 => ⟨(), trivial, rfl, zFof hT.2.2 q1 q2⟩) hT.2.2.2.2 (by omega) (by omega)
theorem z_throwA (hl0 : l.stackTraces = false) (hx : p.tables.exec = Jvm.exec) (hb : c.code = cc) (hml : c.maxLocals = nL) (hown : s.vm.findClass "CostBench" = some m.cls) (hts : ∀ w ∈ lwg, w.before args s = true) (hlk : meth.locks = false) (htab : ∀ x ∈ c.exceptionTable.toList, False) (hE : zE A s s.heap) (hT : zT G A s.heap H locs ws) (hsz : ls.size = nL) (hw8 : (rest.map fun v => v.category).sum ≤ 8) (hc : cells ≤ 0) (hs : slots ≤ 0)
    (d0 : decode cc pc = .ok (.new 297, 3)) (d3 : decode cc (pc + 3) = .ok (.dup, 1)) (d4 : decode cc (pc + 4) = .ok (.ldc_w 299, 3)) (d7 : decode cc (pc + 7) = .ok (.invokespecial 301, 3)) (d10 : decode cc (pc + 10) = .ok (.athrow, 1)) :
    W p l e (zR D 1 6) s m args below meth c H locs cells slots (vx_MQ below Qc (zXC zIAE A) args s 1 6 A) (F0 m pc ls rest) := by
  obtain ⟨⟨h1, h2⟩, ⟨c1, c2, c3, c4, c5⟩, h3, ⟨s1, h4⟩, ⟨s2, h5⟩⟩ := hE
  exact vx_throwSW (names := ["java/lang/RuntimeException", "java/lang/Exception"]) hx hb hl0 hown (by decide +kernel) (by decide +kernel) (hts _ w3_189) (hts _ w1_19) h5 (vx_hat (fun w hw => hts w (zAtA_g w hw)) zAtA_b (vx_c (va_Nw.use rfl c2) (vx_c (va_Nw.use rfl c3) (vx_c (va_Nw.use rfl c4) (vx_c (va_Nw.use rfl c5) vx_n))))) zAtA_o h1 h2 hT.2.2 (by rw [hml]; exact hsz) d0 d3 d4 d7 d10 (fun x hx9 => (htab x hx9).elim) (by simp only [zR, List.length_cons, List.length_nil]; omega) (by simp only [zR, List.length_cons, List.length_nil]; omega) (by simp only [zR]; omega) (by simp only [zR]; omega) hlk (fun t _ q1 q2 => ⟨(), trivial, rfl, zFof hT.2.2 q1 q2⟩) hT.2.2.2.2 (by omega) (by omega)
end ZTH
section ZXC
variable {p : Program} {l : Launch} {e : Env} {s : State} {m : MethodId} {args : Array Value} {below : List Frame} {meth : Method} {c : Code} {H : Heap} {locs : List Loc} {cells slots : Nat}
variable {cc : ByteArray} {pc nL : Nat} {ls : Array Slot} {rest : List Value} {G : va_G} {cy : Nat → ClassId} {A : Nat → Prop} {ws : va_W} {own : String}
variable {D d yn n idx : Nat} {y : MethodName} {yc : ByteArray} {ret : Option FieldType} {b : Nat} {As st0 : List Value} {wc : va_W} {Qc : Array Value → State → Outcome → State → Prop} {E : String}
theorem z_preX {av : List Value} (hK : zK G cy s) (hE : zE A s s.heap) (hA : ∀ q, s.heap.size ≤ q → A q) (hT : zT G A s.heap H locs ws) (isC : List Nat) (hnC : va_nd isC = true) (hC : isC.map (fun i => ws[i]?) = wc.map some) : PreS s H (zPreX G cy av H.size wc) av :=
  ⟨zPreX_blind, fun U hU hW => ⟨rfl, by rw [hU], by rw [hU]; exact (hT.sub isC hnC hC).1, hK.warm hW, (hT.sub isC hnC hC).2.1.weaken (fun _ _ _ _ => trivial), hE.call hT.2.2 (va_free hT.2.1 hT.2.2 hA isC hC) hU hW⟩⟩
/-- a call of a method that throws, out of a method that does not catch -/
theorem z_cVX {C : String} {ci N : Nat} {T : u_T} {fs : List Value} (hx : p.tables.exec = Jvm.exec) (hb : c.code = cc) (hml : c.maxLocals = nL) (hown : s.vm.findClass own = some m.cls) (hts : ∀ w ∈ lwg, w.before args s = true) (hlk : meth.locks = false) (htab : ∀ x ∈ c.exceptionTable.toList, False) (hK : zK G cy s) (hE : zE A s s.heap) (hA : ∀ q, s.heap.size ≤ q → A q) (hT : zT G A s.heap H locs ws) (L : zLV own idx y C yc yn ret n) (hM : zX l G cy y yc yn ret d (.ref b :: As) wc E zNV) (isC : List Nat) (hnC : va_nd isC = true) (hC : isC.map (fun i => ws[i]?) = wc.map some) (q0 : Nat) (hq : wc[q0]? = some (b, .inr (ci, fs))) (hcl : zcl[ci]? = some (C, T, N)) (hd : d < D) (hlen : As.length = n) (hsz : ls.size = nL) (hst : st0 = As.reverse ++ .ref b :: rest) (hw8 : (rest.map fun v => v.category).sum ≤ 8) (hdg : decode cc pc = .ok (.invokevirtual idx, 3)) (hc : cells ≤ 0) (hs : slots ≤ 0) :
    W p l e (zR D 1 6) s m args below meth c H locs cells slots (vx_MQ below Qc (zXC E A) args s 1 6 A) (F0 m pc ls st0) := by
  have hFc : ∀ q, va_A wc H.size q → A q := va_free hT.2.1 hT.2.2 hA isC hC
  refine vx_callv (vx_runV (As := As) (rest := rest) ⟨hx, hb, hml, hown, hts⟩ (hM H.size) ⟨callB_of n hts (zgood L.2.2.2.2.1) rfl rfl rfl (hts _ L.2.2.2.1) (hts _ L.1) L.2.2.2.2.2.1 (zroom hd L.2.2.2.2.2.2), hts _ L.2.1, hts _ L.2.2.1⟩ ⟨zPreX_blind, va_recv hK.1 (hT.sub isC hnC hC).1 hcl hq, (z_preX hK hE hA hT isC hnC hC).2⟩ rfl hlen hsz hst (lv_room hw8) hdg ⟨by simp only [zR]; omega, by simp only [zR]; omega⟩) hT.2.2 (fun q _ h => hFc q h) hFc (fun q _ h => hFc q h) (fun E9 ce q9 u t H1 locs1 ht hvm hp hB hz1 hk1 hS hcell hv hcl9 => ?_) (fun u t H1 locs1 ht hvm hp => hp.elim)
  exact vx_out (fun x hx9 => (htab x hx9).elim) hlk hcell hv hcl9 (fun t9 ht9 _ => ⟨(), trivial, hB, hS.F ht9⟩) hS.2.2 (by omega) (by omega)
end ZXC
