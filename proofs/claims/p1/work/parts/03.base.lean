/-! one list of words for every method; a world with its frame; contracts with exact answers -/
abbrev zcl : List vw_C := [(RX0, TX0, 15), (RX1, TX1, 6), (RX2, TX2, 4), (RX3, TX3, 14), (RX4, TX4, 8), (RX5, TX5, 5), (RX6, TX6, 6), (RX7, TX7, 8), (RX8, TX8, 8), (RX9, TX9, 6), (RX10, TX10, 10), (RX11, TX11, 15), (RX12, TX12, 69)]
abbrev ztys (cy : Nat → ClassId) : List (ClassId × FieldType) := [(cy 0, .int), (cy 1, .long), (cy 2, .boolean), (cy 3, .object "CostBench$Machine"), (cy 4, .array .int), (cy 5, .array .long)]
def lwg : List Cond := lw_tbl.filter goodWord
theorem lwg_t {w : Cond} (h : w ∈ tables_1) (hg : goodWord w = true) : w ∈ lwg := List.mem_filter.mpr ⟨List.mem_append_right _ h, hg⟩
theorem lwg_s {w : Cond} (h : w ∈ k2_sels lw_privs) (hg : goodWord w = true) : w ∈ lwg := List.mem_filter.mpr ⟨List.mem_append_left _ h, hg⟩
theorem lwg_g {w : Cond} (h : w ∈ lwg) : (w.onTables && w.keeps) = true ∨ ∃ ty, w = .arrayClass ty := good_of_word (List.mem_filter.mp h).2
theorem lwg_sub {w : Cond} (h : w ∈ lwg) : w ∈ lw_tbl := (List.mem_filter.mp h).1
theorem tb1 {w : Cond} (i : Nat) (h : tables_1_1[i]? = some w) : w ∈ tables_1 := List.mem_append_left _ (List.mem_of_getElem? h)
theorem tb2 {w : Cond} (i : Nat) (h : tables_1_2[i]? = some w) : w ∈ tables_1 := List.mem_append_right _ (List.mem_append_left _ (List.mem_of_getElem? h))
theorem tb3 {w : Cond} (i : Nat) (h : tables_1_3[i]? = some w) : w ∈ tables_1 := List.mem_append_right _ (List.mem_append_right _ (List.mem_append_left _ (List.mem_of_getElem? h)))
theorem tb4 {w : Cond} (i : Nat) (h : tables_1_4[i]? = some w) : w ∈ tables_1 := List.mem_append_right _ (List.mem_append_right _ (List.mem_append_right _ (List.mem_append_left _ (List.mem_of_getElem? h))))
theorem tb5 {w : Cond} (i : Nat) (h : tables_1_5[i]? = some w) : w ∈ tables_1 := List.mem_append_right _ (List.mem_append_right _ (List.mem_append_right _ (List.mem_append_right _ (List.mem_append_left _ (List.mem_of_getElem? h)))))
theorem tb6 {w : Cond} (i : Nat) (h : tables_1_6[i]? = some w) : w ∈ tables_1 := List.mem_append_right _ (List.mem_append_right _ (List.mem_append_right _ (List.mem_append_right _ (List.mem_append_right _ (List.mem_append_left _ (List.mem_of_getElem? h))))))
theorem tb7 {w : Cond} (i : Nat) (h : tables_1_7[i]? = some w) : w ∈ tables_1 := List.mem_append_right _ (List.mem_append_right _ (List.mem_append_right _ (List.mem_append_right _ (List.mem_append_right _ (List.mem_append_right _ (List.mem_append_left _ (List.mem_of_getElem? h)))))))
theorem tb8 {w : Cond} (i : Nat) (h : tables_1_8[i]? = some w) : w ∈ tables_1 := List.mem_append_right _ (List.mem_append_right _ (List.mem_append_right _ (List.mem_append_right _ (List.mem_append_right _ (List.mem_append_right _ (List.mem_append_right _ (List.mem_append_left _ (List.mem_of_getElem? h))))))))
theorem tb9 {w : Cond} (i : Nat) (h : tables_1_9[i]? = some w) : w ∈ tables_1 := List.mem_append_right _ (List.mem_append_right _ (List.mem_append_right _ (List.mem_append_right _ (List.mem_append_right _ (List.mem_append_right _ (List.mem_append_right _ (List.mem_append_right _ (List.mem_append_left _ (List.mem_of_getElem? h)))))))))
theorem tb10 {w : Cond} (i : Nat) (h : tables_1_10[i]? = some w) : w ∈ tables_1 := List.mem_append_right _ (List.mem_append_right _ (List.mem_append_right _ (List.mem_append_right _ (List.mem_append_right _ (List.mem_append_right _ (List.mem_append_right _ (List.mem_append_right _ (List.mem_append_right _ (List.mem_of_getElem? h)))))))))
/-- calls of private members of nest mates -/
abbrev zNest : Type := List (String × Nat × MethodName × String)
def znest : zNest := [("CostBench", 22, ⟨"CostBench$Tape", "<init>", "()V"⟩, "CostBench"), ("CostBench", 36, ⟨"CostBench$Reach", "<init>", "()V"⟩, "CostBench"), ("CostBench", 52, ⟨"CostBench$Joiner", "<init>", "()V"⟩, "CostBench"), ("CostBench", 59, ⟨"CostBench$Pairing", "<init>", "()V"⟩, "CostBench"), ("CostBench", 73, ⟨"CostBench$Couples", "<init>", "()V"⟩, "CostBench"), ("CostBench$Couples", 20, ⟨"CostBench$Sweep", "<init>", "()V"⟩, "CostBench"), ("CostBench$Tape", 23, ⟨"CostBench", "letterOf", "(I)I"⟩, "CostBench"), ("CostBench$Reach", 111, ⟨"CostBench", "lower", "([III)V"⟩, "CostBench"), ("CostBench$Reach", 119, ⟨"CostBench", "lesser", "(II)I"⟩, "CostBench"), ("CostBench$Maker", 161, ⟨"CostBench", "lesser", "(II)I"⟩, "CostBench"), ("CostBench$Maker", 168, ⟨"CostBench", "lower", "([III)V"⟩, "CostBench"), ("CostBench$Maker", 172, ⟨"CostBench", "takeLeastOff", "([III)I"⟩, "CostBench"), ("CostBench$Pairing", 87, ⟨"CostBench", "lower", "([III)V"⟩, "CostBench"), ("CostBench$Pairing", 66, ⟨"CostBench", "lesser", "(II)I"⟩, "CostBench"), ("CostBench$WordTree", 95, ⟨"CostBench", "takeLeastOff", "([III)I"⟩, "CostBench"), ("CostBench$Steps", 88, ⟨"CostBench", "lesser", "(II)I"⟩, "CostBench"), ("CostBench$Steps", 84, ⟨"CostBench", "lower", "([III)V"⟩, "CostBench")]
def zNs (U : State) : Prop := ∀ q ∈ znest, va_Nw (.methodLinkNest q.1 q.2.1 q.2.2.1 q.2.2.2) U
theorem va_AOA.warm {ty : FieldType} {s U : State} (hW : s.WarmedH U.vm) (h : va_AOA ty s) : va_AOA ty U := by
  have h1 : (Cond.arrayOver (.array ty)).before #[] (s.setVm U.vm) = true := Cond.before_shiftedOver (State.Shifted.of_warmed hW) _ rfl h
  exact h1
def zAO (U : State) : Prop := va_AO "CostBench$Machine" U ∧ va_AOA .int U ∧ va_AOA .long U
def zK (G : va_G) (cy : Nat → ClassId) (U : State) : Prop := va_K G zcl (ztys cy) U ∧ zNs U ∧ zAO U
theorem zK.warm {G : va_G} {cy : Nat → ClassId} {s U : State} (hW : s.WarmedH U.vm) (h : zK G cy s) : zK G cy U := ⟨va_K.moved hW.alike h.1, fun q hq => va_Nw.warmM hW (h.2.1 q hq), va_AO.moved hW.alike h.2.2.1, va_AOA.warm hW h.2.2.2.1, va_AOA.warm hW h.2.2.2.2⟩
theorem zK.blind {G : va_G} {cy : Nat → ClassId} {U : State} {g : JFrame} {mk : MethodId} {a : Array Value} (h : zK G cy U) : zK G cy (U.calling g mk a) := ⟨va_K.moved (u := U) (U := U.calling g mk a) (Vm.Alike.refl U.vm) h.1, fun q hq => va_Nw.same rfl rfl (h.2.1 q hq), h.2.2⟩
/-- the cells, apart, and nothing else changed since H0 -/
def zT (G : va_G) (A : Nat → Prop) (H0 H : Heap) (locs : List Loc) (ws : va_W) : Prop := va_P G zcl ws H ∧ va_D A ws ∧ va_S A H0 H locs
theorem filterMap_of_map {α β : Type} {f : α → Option β} : ∀ {l : List α} {l' : List β}, l.map f = l'.map some → l.filterMap f = l'
  | [], [], _ => rfl
  | [], _ :: _, h => by simp at h
  | _ :: _, [], h => by simp at h
  | a :: l, b :: l', h => by
    simp only [List.map_cons, List.cons.injEq] at h
    rw [List.filterMap_cons, h.1]
    simp only [List.cons.injEq, true_and]
    exact filterMap_of_map h.2
theorem zT.sub {G : va_G} {A : Nat → Prop} {H0 H : Heap} {locs : List Loc} {ws ws' : va_W} (h : zT G A H0 H locs ws) (is : List Nat) (hn : va_nd is = true) (hs : is.map (fun i => ws[i]?) = ws'.map some) : zT G A H0 H locs ws' := ⟨h.1.sub is (filterMap_of_map hs), h.2.1.sub is hn hs, h.2.2⟩
/-- a method's start -/
def zPre (G : va_G) (cy : Nat → ClassId) (av : List Value) (sz : Nat) (ws : va_W) : Array Value → State → Prop := va_Pc av (fun U => U.heap.size = sz ∧ va_P G zcl ws U.heap ∧ zK G cy U ∧ va_D (fun _ => True) ws)
theorem zPre_blind {G : va_G} {cy : Nat → ClassId} {av : List Value} {sz : Nat} {ws : va_W} : FrameBlind (zPre G cy av sz ws) := fun _ _ _ _ q => ⟨q.1, q.2.1, q.2.2.1, q.2.2.2.1.blind, q.2.2.2.2⟩
def zB (G : va_G) (A : Nat → Prop) (ws' : (Nat → Nat → Nat) → va_W) (t : State) : Prop := ∃ qs : Nat → Nat → Nat, va_P G zcl (ws' qs) t.heap ∧ va_D A (ws' qs)
abbrev zR (d mc ms : Nat) : Room := { frames := 10 + d, cells := mc, slots := ms, locals := 200 + 60 * d }
def zQI (G : va_G) (A : Nat → Prop) (r : Int32) (ws' : (Nat → Nat → Nat) → va_W) : Array Value → State → Outcome → State → Prop := va_Qi (fun (x : Int32) (_ : Unit) => x = r) (fun _ t => zB G A ws' t) A
def zQL (G : va_G) (A : Nat → Prop) (r : Int64) (ws' : (Nat → Nat → Nat) → va_W) : Array Value → State → Outcome → State → Prop := va_Ql (fun (x : Int64) (_ : Unit) => x = r) (fun _ t => zB G A ws' t) A
def zQV (G : va_G) (A : Nat → Prop) (ws' : (Nat → Nat → Nat) → va_W) : Array Value → State → Outcome → State → Prop := va_Qv (fun (_ : Unit) => True) (fun _ t => zB G A ws' t) A
def zM (l : Launch) (G : va_G) (cy : Nat → ClassId) (y : MethodName) (cc : ByteArray) (nL : Nat) (ret : Option FieldType) (d mc ms : Nat) (av : List Value) (ws : va_W) (Q : (Nat → Prop) → Array Value → State → Outcome → State → Prop) : Prop :=
  ∀ sz : Nat, Met l y (Cond.code y cc nL ret :: lwg) (zR d mc ms) (zPre G cy av sz ws) (Q (va_A ws sz)) mc ms (va_A ws sz)
/-- the answer is the int r, the cells are ws' behind it -/
abbrev zI (l : Launch) (G : va_G) (cy : Nat → ClassId) (y : MethodName) (cc : ByteArray) (nL : Nat) (ret : Option FieldType) (d mc ms : Nat) (av : List Value) (ws : va_W) (r : Int32) (ws' : (Nat → Nat → Nat) → va_W) : Prop := zM l G cy y cc nL ret d mc ms av ws (fun A => zQI G A r ws')
abbrev zJ (l : Launch) (G : va_G) (cy : Nat → ClassId) (y : MethodName) (cc : ByteArray) (nL : Nat) (ret : Option FieldType) (d mc ms : Nat) (av : List Value) (ws : va_W) (r : Int64) (ws' : (Nat → Nat → Nat) → va_W) : Prop := zM l G cy y cc nL ret d mc ms av ws (fun A => zQL G A r ws')
abbrev zV (l : Launch) (G : va_G) (cy : Nat → ClassId) (y : MethodName) (cc : ByteArray) (nL : Nat) (ret : Option FieldType) (d mc ms : Nat) (av : List Value) (ws : va_W) (ws' : (Nat → Nat → Nat) → va_W) : Prop := zM l G cy y cc nL ret d mc ms av ws (fun A => zQV G A ws')
/-- a contract out of the walk of its body -/
theorem zM.of {l : Launch} {G : va_G} {cy : Nat → ClassId} {y : MethodName} {cc : ByteArray} {nL : Nat} {ret : Option FieldType} {d mc ms : Nat} {av : List Value} {ws : va_W} {Q : (Nat → Prop) → Array Value → State → Outcome → State → Prop}
    (hy : plainName y.cls = true) (hlen : (lg_sl av).length ≤ nL)
    (body : ∀ (p : Program) (e : Env) (s : State) (m : MethodId) (args : Array Value) (below : List Frame) (meth : Method) (c : Code) (ls : Array Slot) (A : Nat → Prop), p.tables.exec = Jvm.exec → c.code = cc → c.maxLocals = nL → s.vm.findClass y.cls = some m.cls → (∀ w ∈ lwg, w.before args s = true) → meth.locks = false → meth.sig.returnType = ret → meth.name = y.name →
      lv_has ls nL (lv_args 0 av) → zK G cy s → (∀ q, s.heap.size ≤ q → A q) → zT G A s.heap s.heap [] ws →
      W p l e (zR d mc ms) s m args below meth c s.heap [] 0 0 (MQ below (Q A) args s mc ms A) (F0 m 0 ls [])) : zM l G cy y cc nL ret d mc ms av ws Q := by
  intro sz
  refine Met.ofW (cc := cc) (maxL := nL) (ret := ret) hy rfl ?_
  intro p e s m args below meth c s₁ B hml hv
  obtain ⟨rfl, hsz, hP, hK, hD0⟩ := hv
  subst hsz
  have hts := atoms_spec (ws := Cond.code y cc nL ret :: lwg) B.pre
  rw [lg_entry_eq]
  exact body p e s m _ below meth c _ _ B.exec B.bytes hml (findClass_of_methodNamed B.named) (fun w h => hts w (List.mem_cons_of_mem _ h)) B.notSynchronized B.returns (name_of_methodNamed B.named B.method).1 (lv_entry av hlen) hK (fun q h => Or.inr h) ⟨hP, hD0.self, va_S.rf⟩
section ZR
variable {p : Program} {l : Launch} {e : Env} {R : Room} {s : State} {m : MethodId} {args : Array Value} {below : List Frame} {meth : Method} {c : Code} {H H0 : Heap} {locs : List Loc} {cells slots : Nat} {Q : State → Prop}
variable {cc : ByteArray} {pc : Nat} {ls : Array Slot} {rest : List Value} {G : va_G} {cy : Nat → ClassId} {A : Nat → Prop} {a : Nat} {ws : va_W} {own : String}
theorem z_iret (hx : p.tables.exec = Jvm.exec) (hb : c.code = cc) (hr : meth.sig.returnType = some .int) (hlk : meth.locks = false) {ws' : (Nat → Nat → Nat) → va_W} {mc ms : Nat} {v r : Int32} (hT : zT G A s.heap H locs ws) (qs : Nat → Nat → Nat) (is : List Nat) (hn : va_nd is = true) (hs : is.map (fun i => ws[i]?) = (ws' qs).map some) (hv : v = r) (hc : cells ≤ mc) (hm : slots ≤ ms) (hdg : decode cc pc = .ok (.ireturn, 1)) :
    W p l e R s m args below meth c H locs cells slots (MQ below (zQI G A r ws') args s mc ms A) (F0 m pc ls [.int v]) := by
  have h9 := hT.sub is hn hs
  exact W.widen hc hm (W.iret hx hb hr (fun t ht _ => ⟨⟨v, (), rfl, hv, qs, by rw [ht]; exact h9.1, h9.2.1⟩, h9.2.2.F ht⟩) h9.2.2.2.2 hdg hlk)
theorem z_zret (hx : p.tables.exec = Jvm.exec) (hb : c.code = cc) (hr : meth.sig.returnType = some .boolean) (hlk : meth.locks = false) {ws' : (Nat → Nat → Nat) → va_W} {mc ms : Nat} {v r : Int32} (hT : zT G A s.heap H locs ws) (qs : Nat → Nat → Nat) (is : List Nat) (hn : va_nd is = true) (hs : is.map (fun i => ws[i]?) = (ws' qs).map some) (hv : v = r) (hb2 : narrow .boolean (.int v) = .int v) (hc : cells ≤ mc) (hm : slots ≤ ms) (hdg : decode cc pc = .ok (.ireturn, 1)) :
    W p l e R s m args below meth c H locs cells slots (MQ below (zQI G A r ws') args s mc ms A) (F0 m pc ls [.int v]) := by
  have h9 := hT.sub is hn hs
  exact W.widen hc hm (W.zret hx hb hr hb2 (fun t ht _ => ⟨⟨v, (), rfl, hv, qs, by rw [ht]; exact h9.1, h9.2.1⟩, h9.2.2.F ht⟩) h9.2.2.2.2 hdg hlk)
theorem z_lret (hx : p.tables.exec = Jvm.exec) (hb : c.code = cc) (hr : meth.sig.returnType = some .long) (hlk : meth.locks = false) {ws' : (Nat → Nat → Nat) → va_W} {mc ms : Nat} {v r : Int64} (hT : zT G A s.heap H locs ws) (qs : Nat → Nat → Nat) (is : List Nat) (hn : va_nd is = true) (hs : is.map (fun i => ws[i]?) = (ws' qs).map some) (hv : v = r) (hc : cells ≤ mc) (hm : slots ≤ ms) (hdg : decode cc pc = .ok (.lreturn, 1)) :
    W p l e R s m args below meth c H locs cells slots (MQ below (zQL G A r ws') args s mc ms A) (F0 m pc ls [.long v]) := by
  have h9 := hT.sub is hn hs
  exact W.widen hc hm (W.lret hx hb hr (fun t ht _ => ⟨⟨v, (), rfl, hv, qs, by rw [ht]; exact h9.1, h9.2.1⟩, h9.2.2.F ht⟩) h9.2.2.2.2 hdg hlk)
theorem z_vret (hx : p.tables.exec = Jvm.exec) (hb : c.code = cc) (hr : meth.sig.returnType = none) (hlk : meth.locks = false) {ws' : (Nat → Nat → Nat) → va_W} {mc ms : Nat} (hT : zT G A s.heap H locs ws) (qs : Nat → Nat → Nat) (is : List Nat) (hn : va_nd is = true) (hs : is.map (fun i => ws[i]?) = (ws' qs).map some) (hc : cells ≤ mc) (hm : slots ≤ ms) (hdg : decode cc pc = .ok (.return_, 1)) :
    W p l e R s m args below meth c H locs cells slots (MQ below (zQV G A ws') args s mc ms A) (F0 m pc ls []) := by
  have h9 := hT.sub is hn hs
  exact W.widen hc hm (W.vret hx hb hr (fun t ht _ => ⟨⟨(), rfl, trivial, qs, by rw [ht]; exact h9.1, h9.2.1⟩, h9.2.2.F ht⟩) h9.2.2.2.2 hdg hlk)
end ZR
