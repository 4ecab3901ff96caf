
/-! loops over a counter; rows of references by a function; new T[n][m] -/
theorem z_loop {p : Program} {l : Launch} {e : Env} {R : Room} {s : State} {m : MethodId} {args : Array Value} {below : List Frame} {meth : Method} {c : Code} {cells slots : Nat} {Q : State → Prop} {pc : Nat} (P : Nat → Heap → List Loc → Array Slot → Prop) (lo N : Nat)
    (body : ∀ (i : Nat) (H : Heap) (locs : List Loc) (ls : Array Slot), lo ≤ i → i < N → P i H locs ls → (∀ (H : Heap) (locs : List Loc) (ls : Array Slot), P (i + 1) H locs ls → W p l e R s m args below meth c H locs cells slots Q (F0 m pc ls [])) → W p l e R s m args below meth c H locs cells slots Q (F0 m pc ls []))
    (fin : ∀ (H : Heap) (locs : List Loc) (ls : Array Slot), P N H locs ls → W p l e R s m args below meth c H locs cells slots Q (F0 m pc ls [])) {H : Heap} {locs : List Loc} {ls : Array Slot} (hN : lo ≤ N) (h0 : P lo H locs ls) : W p l e R s m args below meth c H locs cells slots Q (F0 m pc ls []) := by
  have h : ∀ (k i : Nat) (H : Heap) (locs : List Loc) (ls : Array Slot), lo ≤ i → i ≤ N → N - i < k → P i H locs ls → W p l e R s m args below meth c H locs cells slots Q (F0 m pc ls []) := by
    intro k
    induction k with
    | zero => intro i H locs ls _ _ h; omega
    | succ k ih =>
      intro i H locs ls h1 h2 h3 hP
      rcases Nat.lt_or_ge i N with h | h
      · exact body i H locs ls h1 h hP (fun H locs ls h4 => ih (i + 1) H locs ls (by omega) h (by omega) h4)
      · have e : i = N := by omega
        subst e
        exact fin H locs ls hP
  exact h (N - lo + 1) lo H locs ls (Nat.le_refl lo) hN (by omega) h0
theorem zset_self {ws : va_W} {q0 : Nat} {x : Nat × va_E} (h : ws[q0]? = some x) : ws.set q0 x = ws := by
  apply List.ext_getElem?
  intro k
  by_cases e : k = q0
  · subst e
    rw [List.getElem?_set_self ((List.getElem?_eq_some_iff.mp h).1), h]
  · rw [List.getElem?_set_ne (Ne.symm e)]
theorem zT.setI {G : va_G} {A : Nat → Prop} {H0 H : Heap} {locs : List Loc} {ws : va_W} {a n : Nat} {cA : ClassId} {f : Nat → Int32} (h : zT G A H0 H locs ws) (q0 : Nat) (ha : ws[q0]? = some (a, .inl (cA, n, .inl f))) (g : Nat → Int32) (hf : ∀ j, j < n → f j = g j) (ws2 : va_W) (hw : ws.set q0 (a, .inl (cA, n, .inl g)) = ws2) : zT G A H0 H locs ws2 := by
  subst hw
  exact zcong (x := .inl (cA, n, .inl f)) (zatI hf) (by rw [zset_self ha]; exact h)
theorem zT.setJ {G : va_G} {A : Nat → Prop} {H0 H : Heap} {locs : List Loc} {ws : va_W} {a n : Nat} {cA : ClassId} {f : Nat → Int64} (h : zT G A H0 H locs ws) (q0 : Nat) (ha : ws[q0]? = some (a, .inl (cA, n, .inr (.inl f)))) (g : Nat → Int64) (hf : ∀ j, j < n → f j = g j) (ws2 : va_W) (hw : ws.set q0 (a, .inl (cA, n, .inr (.inl g))) = ws2) : zT G A H0 H locs ws2 := by
  subst hw
  exact zcong (x := .inl (cA, n, .inr (.inl f))) (zatJ hf) (by rw [zset_self ha]; exact h)
theorem zcellQ {cA : ClassId} {n : Nat} {f g : Nat → Option Nat} (h : ∀ j, j < n → f j = g j) : vp_cell cA (n, .inr (.inr (.inr (.inr f)))) = vp_cell cA (n, .inr (.inr (.inr (.inr g)))) := by
  have e : (fun (j : Fin n) => va_rf (f j.val)) = (fun (j : Fin n) => va_rf (g j.val)) := funext fun j => by rw [h j.val j.isLt]
  simp only [vp_cell, arrV, e]
theorem zT.setQ {G : va_G} {A : Nat → Prop} {H0 H : Heap} {locs : List Loc} {ws : va_W} {a n : Nat} {cA : ClassId} {f : Nat → Option Nat} (h : zT G A H0 H locs ws) (q0 : Nat) (ha : ws[q0]? = some (a, .inl (cA, n, .inr (.inr (.inr (.inr f)))))) (g : Nat → Option Nat) (hf : ∀ j, j < n → f j = g j) (ws2 : va_W) (hw : ws.set q0 (a, .inl (cA, n, .inr (.inr (.inr (.inr g))))) = ws2) : zT G A H0 H locs ws2 := by
  subst hw
  exact zcong (x := .inl (cA, n, .inr (.inr (.inr (.inr f))))) (fun h9 => Eq.trans (show H[a]? = some (vp_cell cA (n, .inr (.inr (.inr (.inr f))))) from h9) (congrArg some (zcellQ hf))) (by rw [zset_self ha]; exact h)
def zcp (f g : Nat → Int32) (i : Nat) : Nat → Int32 := fun j => if j < i then f j else g j
theorem zfil0 {g : Nat → Int32} {a : Nat} {v : Int32} (j : Nat) : g j = zfil g a a v j := by
  unfold zfil
  rw [if_neg (by omega)]
theorem zfilS {g : Nat → Int32} {a b : Nat} {v : Int32} (h : a ≤ b) (j : Nat) : upd (zfil g a b v) b v j = zfil g a (b + 1) v j := by
  unfold upd zfil
  by_cases e : j = b
  · subst e
    rw [if_pos rfl, if_pos ⟨h, Nat.lt_succ_self j⟩]
  · rw [if_neg e]
    by_cases q : a ≤ j ∧ j < b
    · rw [if_pos q, if_pos ⟨q.1, by omega⟩]
    · rw [if_neg q, if_neg (by omega)]
theorem zfilA {g : Nat → Int32} {n : Nat} {v : Int32} (j : Nat) (h : j < n) : zfil g 0 n v j = kc v j := by
  unfold zfil
  rw [if_pos ⟨Nat.zero_le j, h⟩]
  rfl
theorem zcp0 {f g : Nat → Int32} (j : Nat) : g j = zcp f g 0 j := by
  unfold zcp
  rw [if_neg (by omega)]
theorem zcpS {f g : Nat → Int32} {i : Nat} (j : Nat) : upd (zcp f g i) i (f i) j = zcp f g (i + 1) j := by
  unfold upd zcp
  by_cases e : j = i
  · subst e
    rw [if_pos rfl, if_pos (Nat.lt_succ_self j)]
  · rw [if_neg e]
    by_cases q : j < i
    · rw [if_pos q, if_pos (by omega)]
    · rw [if_neg q, if_neg (by omega)]
theorem zcpA {f g : Nat → Int32} {n : Nat} (j : Nat) (h : j < n) : zcp f g n j = f j := by
  unfold zcp
  rw [if_pos h]
theorem zle_of_nlt {a b : Int32} (h : ¬ a < b) : b ≤ a := by
  rw [Int32.lt_iff_toInt_lt] at h
  rw [Int32.le_iff_toInt_le]
  omega
theorem znle_of_lt {a b : Int32} (h : a < b) : ¬ b ≤ a := by
  rw [Int32.lt_iff_toInt_lt] at h
  rw [Int32.le_iff_toInt_le]
  omega
theorem zlt_of_nle {a b : Int32} (h : ¬ a ≤ b) : b < a := by
  rw [Int32.le_iff_toInt_le] at h
  rw [Int32.lt_iff_toInt_lt]
  omega
theorem znlt_of_le {a b : Int32} (h : a ≤ b) : ¬ b < a := by
  rw [Int32.le_iff_toInt_le] at h
  rw [Int32.lt_iff_toInt_lt]
  omega
theorem zne {n : Nat} (h : n < 2147483648) : ¬ nI n = (-1) := fun e => by
  have h1 := nI_toInt h
  rw [e] at h1
  have h2 : (-1 : Int32).toInt = -1 := by decide
  rw [h2] at h1
  omega
theorem zneq {a b : Nat} (ha : a < 2147483648) (hb : b < 2147483648) (h : a ≠ b) : ¬ nI a = nI b := fun e => h ((nI_eq ha hb).mp e)
section ZL
variable {p : Program} {l : Launch} {e : Env} {R : Room} {s : State} {m : MethodId} {args : Array Value} {below : List Frame} {meth : Method} {c : Code} {H H0 : Heap} {locs : List Loc} {cells slots : Nat} {Q : State → Prop}
variable {cc : ByteArray} {pc nL : Nat} {ls : Array Slot} {rest : List Value} {G : va_G} {cy : Nat → ClassId} {A : Nat → Prop} {a : Nat} {ws : va_W} {own : String}
/-- an element by its number -/
theorem z_aaldN (hx : p.tables.exec = Jvm.exec) (hb : c.code = cc) (hK : zK G cy s) (hT : zT G A H0 H locs ws) (q0 t0 k : Nat) {n : Nat} {f : Nat → Option Nat} {i : Int32} {cA : ClassId} {ty : FieldType} {v : Nat} (ha : ws[q0]? = some (a, .inl (cA, n, .inr (.inr (.inr (.inr f)))))) (ht : (ztys cy)[t0]? = some (cA, ty)) (hty : ty.isReference = true) (hi : i = nI k) (hk : k < n) (hn : n < 2147483648) (hv : f k = some v) (hdg : decode cc pc = .ok (.aaload, 1))
    (kk : W p l e R s m args below meth c H locs cells slots Q (F0 m (pc + 1) ls (.ref v :: rest))) : W p l e R s m args below meth c H locs cells slots Q (F0 m pc ls (.int i :: .ref a :: rest)) := by
  subst hi
  exact z_aald hx hb hK hT q0 t0 ha ht hty (vp_in_nI hk hn) (by rw [nI_clamp (Nat.lt_trans hk hn)]; exact hv) hdg kk
end ZL
theorem zpool {r : Nat → Nat} {N : Nat} {f : Nat → va_E} {x : va_E} : va_pl ([] ++ (List.range N).map r) (vr_up f ((List.range N).map r) x) = (List.range N).map (fun i => (r i, x)) := by
  unfold va_pl
  rw [List.nil_append, List.map_map]
  apply List.map_congr_left
  intro i hi
  simp only [Function.comp]
  rw [vr_up_in (List.mem_map.mpr ⟨i, hi, rfl⟩)]
section ZM
variable {p : Program} {l : Launch} {e : Env} {R : Room} {s : State} {m : MethodId} {args : Array Value} {below : List Frame} {meth : Method} {c : Code} {H H0 : Heap} {locs : List Loc} {cells slots : Nat} {Q : State → Prop}
variable {cc : ByteArray} {pc nL : Nat} {ls : Array Slot} {rest : List Value} {G : va_G} {cy : Nat → ClassId} {A : Nat → Prop} {a : Nat} {ws : va_W} {own : String}
theorem z_newM (hx : p.tables.exec = Jvm.exec) (hb : c.code = cc) (hts : ∀ w ∈ lwg, w.before args s = true) (hown : s.vm.findClass own = some m.cls) {index : Nat} (w1 : Cond.classLink own index "CostBench$Machine" ∈ lwg) (hK : zK G cy s) (hA : ∀ q, H0.size ≤ q → A q) (hT : zT G A H0 H locs ws) {n : Int32} {N : Nat} (hn : n = nI N) (hN : N < 2147483648) (hby : N * 4 ≤ 536870912) (hcells : cells + 1 ≤ R.cells) (hslots : slots + N ≤ R.slots) (hdg : decode cc pc = .ok (.anewarray index, 3)) (ws2 : Nat → va_W) (hw : ∀ q, ws ++ [(q, .inl (cy 3, N, .inr (.inr (.inr (.inr (fun _ => none))))))] = ws2 q)
    (kk : ∀ (q : Nat) (H1 : Heap), zT G A H0 H1 locs (ws2 q) → W p l e R s m args below meth c H1 locs (cells + 1) (slots + N) Q (F0 m (pc + 3) ls (.ref q :: rest))) : W p l e R s m args below meth c H locs cells slots Q (F0 m pc ls (.int n :: rest)) := by
  subst hn
  refine va_newq (C := "CostBench$Machine") hx hb hown (hts _ w1) hK.2.2.1 hK.1 hT.1 hT.2.1 hT.2.2 hA (nI_pos hN) (nI_clamp hN) hby hcells hslots hdg (fun q cA H1 hK2 hP hD hS => ?_)
  obtain ⟨_, _, _, _, _, e1⟩ := (hK2.2 6 (cA, .object "CostBench$Machine") rfl).2
  obtain ⟨_, _, _, _, _, e2⟩ := (hK.1.2 3 (cy 3, .object "CostBench$Machine") rfl).2
  have e : cy 3 = cA := Option.some.inj (e2.symm.trans e1)
  subst e
  exact kk q H1 (by rw [← hw q]; exact ⟨hP, hD, hS⟩)
theorem z_mnaI (hx : p.tables.exec = Jvm.exec) (hb : c.code = cc) (hts : ∀ w ∈ lwg, w.before args s = true) (hown : s.vm.findClass own = some m.cls) {index : Nat} (w1 : Cond.classLink own index ("[" ++ (FieldType.array .int).toString) ∈ lwg) (hK : zK G cy s) (hA : ∀ q, H0.size ≤ q → A q) (hT : zT G A H0 H locs ws) {n k : Int32} {N K : Nat} (hn : n = nI N) (hk : k = nI K) (hN : N < 2147483648) (hKK : K < 2147483648) (hb1 : N * 4 ≤ 536870912) (hb2 : K * 8 ≤ 536870912) (hcells : cells + (1 + N) ≤ R.cells) (hslots : slots + (N + N * K) ≤ R.slots) (hdg : decode cc pc = .ok (.multianewarray index 2, 4))
    (kk : ∀ (q : Nat) (r : Nat → Nat) (H1 : Heap), zT G A H0 H1 locs ((ws ++ [(q, .inl (cy 4, N, .inr (.inr (.inr (.inr (fun i => some (r i)))))))]) ++ (List.range N).map (fun i => (r i, .inl (cy 0, K, .inl (kc 0))))) → W p l e R s m args below meth c H1 locs (cells + 1 + N) (slots + N + N * K) Q (F0 m (pc + 4) ls (.ref q :: rest))) : W p l e R s m args below meth c H locs cells slots Q (F0 m pc ls (.int k :: .int n :: rest)) := by
  subst hn hk
  have e2 := (hK.1.2 4 (cy 4, .array .int) rfl).2
  have e3 := (hK.1.2 0 (cy 0, .int) rfl).2
  refine va_mna (X := ws) (L := []) (f := fun _ => .inr (0, [])) (ty := .int) (cy := cy 0) (z := (K, .inl (kc 0))) hx hb hown (hts _ w1) hK.2.2.2.1 (hts _ w1_160) e3 hK.1 (by simpa [va_pl] using hT.1) (by simpa [va_pl] using hT.2.1) hT.2.2 hA (nI_pos hN) (nI_pos hKK) (nI_clamp hN) (nI_clamp hKK) hb1 (by simp only [componentBytes]; omega) (by omega) rfl rfl hcells hslots (fun c9 => arrV_new c9 K _) hdg (fun q r cA H1 hinj hnot hK2 hP hD hS => ?_)
  have e1 := (hK2.2 6 (cA, .array .int) rfl).2
  have e : cy 4 = cA := Option.some.inj (e2.symm.trans e1)
  subst e
  rw [zpool] at hP hD
  have hT9 : zT G A H0 H1 locs ((ws ++ [(q, .inl (cy 4, N, .inr (.inr (.inr (.inr (fun i => if i < N then some (r i) else none))))))]) ++ (List.range N).map (fun i => (r i, .inl (cy 0, K, .inl (kc 0))))) := ⟨hP, hD, hS⟩
  refine kk q r H1 (hT9.setQ (a := q) (n := N) (cA := cy 4) (f := fun i => if i < N then some (r i) else none) ws.length ?_ (fun i => some (r i)) (fun j hj => if_pos hj) _ ?_)
  · rw [List.append_assoc, List.getElem?_append_right (Nat.le_refl _), Nat.sub_self]
    rfl
  · rw [List.append_assoc, List.append_assoc, List.set_append_right _ _ (Nat.le_refl _), Nat.sub_self]
    rfl
theorem z_mnaJ (hx : p.tables.exec = Jvm.exec) (hb : c.code = cc) (hts : ∀ w ∈ lwg, w.before args s = true) (hown : s.vm.findClass own = some m.cls) {index : Nat} (w1 : Cond.classLink own index ("[" ++ (FieldType.array .long).toString) ∈ lwg) (hK : zK G cy s) (hA : ∀ q, H0.size ≤ q → A q) (hT : zT G A H0 H locs ws) {n k : Int32} {N K : Nat} (hn : n = nI N) (hk : k = nI K) (hN : N < 2147483648) (hKK : K < 2147483648) (hb1 : N * 4 ≤ 536870912) (hb2 : K * 8 ≤ 536870912) (hcells : cells + (1 + N) ≤ R.cells) (hslots : slots + (N + N * K) ≤ R.slots) (hdg : decode cc pc = .ok (.multianewarray index 2, 4))
    (kk : ∀ (q : Nat) (r : Nat → Nat) (H1 : Heap), zT G A H0 H1 locs ((ws ++ [(q, .inl (cy 5, N, .inr (.inr (.inr (.inr (fun i => some (r i)))))))]) ++ (List.range N).map (fun i => (r i, .inl (cy 1, K, .inr (.inl (kl 0)))))) → W p l e R s m args below meth c H1 locs (cells + 1 + N) (slots + N + N * K) Q (F0 m (pc + 4) ls (.ref q :: rest))) : W p l e R s m args below meth c H locs cells slots Q (F0 m pc ls (.int k :: .int n :: rest)) := by
  subst hn hk
  have e2 := (hK.1.2 5 (cy 5, .array .long) rfl).2
  have e3 := (hK.1.2 1 (cy 1, .long) rfl).2
  refine va_mna (X := ws) (L := []) (f := fun _ => .inr (0, [])) (ty := .long) (cy := cy 1) (z := (K, .inr (.inl (kl 0)))) hx hb hown (hts _ w1) hK.2.2.2.2 (hts _ w2_9) e3 hK.1 (by simpa [va_pl] using hT.1) (by simpa [va_pl] using hT.2.1) hT.2.2 hA (nI_pos hN) (nI_pos hKK) (nI_clamp hN) (nI_clamp hKK) hb1 (by simp only [componentBytes]; omega) (by omega) rfl rfl hcells hslots (fun c9 => arrV_new c9 K _) hdg (fun q r cA H1 hinj hnot hK2 hP hD hS => ?_)
  have e1 := (hK2.2 6 (cA, .array .long) rfl).2
  have e : cy 5 = cA := Option.some.inj (e2.symm.trans e1)
  subst e
  rw [zpool] at hP hD
  have hT9 : zT G A H0 H1 locs ((ws ++ [(q, .inl (cy 5, N, .inr (.inr (.inr (.inr (fun i => if i < N then some (r i) else none))))))]) ++ (List.range N).map (fun i => (r i, .inl (cy 1, K, .inr (.inl (kl 0)))))) := ⟨hP, hD, hS⟩
  refine kk q r H1 (hT9.setQ (a := q) (n := N) (cA := cy 5) (f := fun i => if i < N then some (r i) else none) ws.length ?_ (fun i => some (r i)) (fun j hj => if_pos hj) _ ?_)
  · rw [List.append_assoc, List.getElem?_append_right (Nat.le_refl _), Nat.sub_self]
    rfl
  · rw [List.append_assoc, List.append_assoc, List.set_append_right _ _ (Nat.le_refl _), Nat.sub_self]
    rfl
end ZM
