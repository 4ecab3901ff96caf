/-! a reference as the answer; a contract over more cells than it needs -/
def zQA (G : va_G) (A : Nat → Prop) (r : Nat) (ws' : (Nat → Nat → Nat) → va_W) : Array Value → State → Outcome → State → Prop := va_Qr (fun (_ : Unit) => True) (fun _ a t => a = r ∧ zB G A ws' t) A
abbrev zA (l : Launch) (G : va_G) (cy : Nat → ClassId) (y : MethodName) (cc : ByteArray) (nL : Nat) (ret : Option FieldType) (d mc ms : Nat) (av : List Value) (ws : va_W) (r : Nat) (ws' : (Nat → Nat → Nat) → va_W) : Prop := zM l G cy y cc nL ret d mc ms av ws (fun A => zQA G A r ws')
section ZAA
variable {p : Program} {l : Launch} {e : Env} {R : Room} {s : State} {m : MethodId} {args : Array Value} {below : List Frame} {meth : Method} {c : Code} {H H0 : Heap} {locs : List Loc} {cells slots : Nat} {Q : State → Prop}
variable {cc : ByteArray} {pc : Nat} {ls : Array Slot} {rest : List Value} {G : va_G} {cy : Nat → ClassId} {A : Nat → Prop} {a : Nat} {ws : va_W} {own : String}
theorem z_aret {t9 : FieldType} (hx : p.tables.exec = Jvm.exec) (hb : c.code = cc) (hr : meth.sig.returnType = some (.array t9)) (hlk : meth.locks = false) {ws' : (Nat → Nat → Nat) → va_W} {mc ms : Nat} {v r : Nat} (hT : zT G A s.heap H locs ws) (qs : Nat → Nat → Nat) (is : List Nat) (hn : va_nd is = true) (hs : is.map (fun i => ws[i]?) = (ws' qs).map some) (hv : v = r) (hc : cells ≤ mc) (hm : slots ≤ ms) (hdg : decode cc pc = .ok (.areturn, 1)) :
    W p l e R s m args below meth c H locs cells slots (MQ below (zQA G A r ws') args s mc ms A) (F0 m pc ls [.ref v]) := by
  have h9 := hT.sub is hn hs
  exact W.widen hc hm (W.aret hx hb hr (Or.inr ⟨_, rfl⟩) (Or.inr ⟨_, rfl⟩) (fun t ht _ => ⟨⟨(), v, rfl, trivial, hv, qs, by rw [ht]; exact h9.1, h9.2.1⟩, h9.2.2.F ht⟩) h9.2.2.2.2 hdg hlk)
end ZAA
section ZAC
variable {p : Program} {l : Launch} {e : Env} {s : State} {m : MethodId} {args : Array Value} {below : List Frame} {meth : Method} {c : Code} {H H0 : Heap} {locs : List Loc} {cells slots : Nat} {Q : State → Prop}
variable {cc : ByteArray} {pc nL : Nat} {ls : Array Slot} {rest : List Value} {G : va_G} {cy : Nat → ClassId} {A : Nat → Prop} {ws : va_W} {own : String}
variable {D MC MS d mc ms yn n idx : Nat} {y : MethodName} {yc : ByteArray} {ret : Option FieldType} {b : Nat} {As st0 : List Value} {wc : va_W} {wc' : (Nat → Nat → Nat) → va_W}
theorem z_cVA {C : String} {ci N : Nat} {T : u_T} {fs : List Value} {r : Nat} (hx : p.tables.exec = Jvm.exec) (hb : c.code = cc) (hml : c.maxLocals = nL) (hown : s.vm.findClass own = some m.cls) (hts : ∀ w ∈ lwg, w.before args s = true) (hK : zK G cy s) (hA : ∀ q, H0.size ≤ q → A q) (hT : zT G A H0 H locs ws) (L : zLV own idx y C yc yn ret n) (hM : zA l G cy y yc yn ret d mc ms (.ref b :: As) wc r wc') (isC isR : List Nat) (hnC : va_nd isC = true) (hnR : va_nd isR = true) (hdis : isR.all (fun i => !isC.contains i) = true) (hC : isC.map (fun i => ws[i]?) = wc.map some) (hR : isR.all (fun i => decide (i < ws.length)) = true) (q0 : Nat) (hq : wc[q0]? = some (b, .inr (ci, fs))) (hcl : zcl[ci]? = some (C, T, N)) (hd : d < D) (hlen : As.length = n) (hsz : ls.size = nL) (hst : st0 = As.reverse ++ .ref b :: rest) (hw8 : (rest.map fun v => v.category).sum ≤ 8) (hdg : decode cc pc = .ok (.invokevirtual idx, 3)) (hf : cells + mc ≤ (zR D MC MS).cells ∧ slots + ms ≤ (zR D MC MS).slots) (ws2 : (Nat → Nat → Nat) → va_W) (hw2 : ∀ qs, isR.filterMap (fun i => ws[i]?) ++ wc' qs = ws2 qs)
    (kk : ∀ (qs : Nat → Nat → Nat) (H1 : Heap) (locs1 : List Loc), zT G A H0 H1 locs1 (ws2 qs) → W p l e (zR D MC MS) s m args below meth c H1 locs1 (cells + mc) (slots + ms) Q (F0 m (pc + 3) ls (.ref r :: rest))) : W p l e (zR D MC MS) s m args below meth c H locs cells slots Q (F0 m pc ls st0) := by
  have hFc : ∀ q, va_A wc H.size q → A q := va_free hT.2.1 hT.2.2 hA isC hC
  refine va_callr (va_runV (As := As) (rest := rest) ⟨hx, hb, hml, hown, hts⟩ (hM H.size) ⟨callB_of n hts (zgood L.2.2.2.2.1) rfl rfl rfl (hts _ L.2.2.2.1) (hts _ L.1) L.2.2.2.2.2.1 (zroom hd L.2.2.2.2.2.2), hts _ L.2.1, hts _ L.2.2.1⟩ ⟨zPre_blind, va_recv hK.1 (hT.sub isC hnC hC).1 hcl hq, (z_pre hK hT isC hnC hC).2⟩ rfl hlen hsz hst (lv_room hw8) hdg hf) hT.2.2 (fun q _ h => hFc q h) hFc (fun u r9 t H1 locs1 ht hvm hp hB hz1 hk1 hS => ?_)
  obtain ⟨hr9, hB⟩ := hB
  subst hr9
  obtain ⟨qs, hP1, hD1⟩ := hB
  rw [ht] at hP1
  obtain ⟨hP9, hD9⟩ := va_join (wr := isR.filterMap (fun i => ws[i]?)) (w1 := wc' qs) hT.1 hT.2.1 isC isR hC (zfm hR) hnR (zdis hdis) hk1 hFc hP1 hD1
  exact kk qs H1 locs1 (by rw [← hw2 qs]; exact ⟨hP9, hD9, hS⟩)
end ZAC
theorem va_F.mono {A B : Nat → Prop} {st t : State} (h : va_F A st t) (hAB : ∀ q, A q → B q) : va_F B st t := ⟨h.1, fun q h1 h2 => h.2 q h1 (fun h3 => h2 (hAB q h3))⟩
theorem zB.mono {G : va_G} {A B : Nat → Prop} {ws' : (Nat → Nat → Nat) → va_W} {t : State} (h : zB G A ws' t) (hAB : ∀ q, A q → B q) : zB G B ws' t := by
  obtain ⟨qs, h1, h2⟩ := h
  exact ⟨qs, h1, h2.weaken (fun _ _ _ h => hAB _ h)⟩
def zMono (Q : (Nat → Prop) → Array Value → State → Outcome → State → Prop) : Prop := ∀ (A B : Nat → Prop) (a : Array Value) (st : State) (o : Outcome) (t : State), (∀ q, A q → B q) → Q A a st o t → Q B a st o t
theorem zQI.mono {G : va_G} {r : Int32} {ws' : (Nat → Nat → Nat) → va_W} : zMono (fun A => zQI G A r ws') := by
  intro A B a st o t hAB h
  obtain ⟨⟨x, u, h1, h2, h3⟩, h4⟩ := h
  exact ⟨⟨x, u, h1, h2, h3.mono hAB⟩, h4.mono hAB⟩
theorem zQL.mono {G : va_G} {r : Int64} {ws' : (Nat → Nat → Nat) → va_W} : zMono (fun A => zQL G A r ws') := by
  intro A B a st o t hAB h
  obtain ⟨⟨x, u, h1, h2, h3⟩, h4⟩ := h
  exact ⟨⟨x, u, h1, h2, h3.mono hAB⟩, h4.mono hAB⟩
theorem zQV.mono {G : va_G} {ws' : (Nat → Nat → Nat) → va_W} : zMono (fun A => zQV G A ws') := by
  intro A B a st o t hAB h
  obtain ⟨⟨u, h1, h2, h3⟩, h4⟩ := h
  exact ⟨⟨u, h1, h2, h3.mono hAB⟩, h4.mono hAB⟩
theorem va_A.mono {wc ws : va_W} {sz : Nat} {is : List Nat} (hs : is.map (fun i => ws[i]?) = wc.map some) : ∀ q, va_A wc sz q → va_A ws sz q := by
  intro q h
  rcases h with ⟨k, e, hk⟩ | h
  · have h1 : (wc.map some)[k]? = some (some (q, e)) := by rw [List.getElem?_map, hk]; rfl
    rw [← hs, List.getElem?_map] at h1
    cases h2 : is[k]? with
    | none => rw [h2] at h1; cases h1
    | some i =>
      rw [h2] at h1
      exact Or.inl ⟨i, e, Option.some.inj h1⟩
  · exact Or.inr h
/-- a contract holds where its cells are among more -/
theorem zM.sub {l : Launch} {G : va_G} {cy : Nat → ClassId} {y : MethodName} {cc : ByteArray} {nL : Nat} {ret : Option FieldType} {d mc ms : Nat} {av : List Value} {wc ws : va_W} {Q : (Nat → Prop) → Array Value → State → Outcome → State → Prop} (hQ : zMono Q) (is : List Nat) (hn : va_nd is = true) (hs : is.map (fun i => ws[i]?) = wc.map some) (h : zM l G cy y cc nL ret d mc ms av wc Q) : zM l G cy y cc nL ret d mc ms av ws Q := by
  intro sz p e h1 h2 h3 s m args below h4 h5 h6 h7
  obtain ⟨rfl, h8, hP, hK, hD⟩ := h6
  obtain ⟨n, o, g1, g2, g3, g4, L, g5, g6⟩ := h sz p e h1 h2 h3 s m _ below h4 h5 ⟨rfl, h8, hP.sub is (filterMap_of_map hs), hK, hD.sub is hn hs⟩ h7
  have hA := va_A.mono (sz := sz) hs
  exact ⟨n, o, g1, g2, g3, hQ _ _ _ _ _ _ hA g4, L, g5, fun q hq => hA _ (g6 q hq)⟩
