/-! new arrays under the standard classes -/
section XNW
variable {p : Program} {l : Launch} {e : Env} {R : Room} {s : State} {m : MethodId} {args : Array Value} {below : List Frame} {meth : Method} {c : Code} {H : Heap} {locs : List Loc} {cells slots : Nat} {Q : State → Prop}
variable {cc : ByteArray} {pc : Nat} {ls : Array Slot} {rest : List Value} {A : Nat → Prop} {E : xE} {ws : va_W}
theorem xnewI (N : Nat) (hexec : p.tables.exec = Jvm.exec) (hb : c.code = cc) (harr : (Cond.arrayClass .int).before args s = true) (hK : va_K E.1 vwCl (xTy E) s) (hP : va_P E.1 vwCl ws H) (hD : va_D A ws) (hS : va_S A s.heap H locs) (hA : ∀ q, s.heap.size ≤ q → A q) {n : Int32} (hn : ¬ n < 0) (hN : n.toNatClampNeg = N) (hbytes : N * componentBytes .int ≤ 536870912) (hcells : cells + 1 ≤ R.cells) (hslots : slots + N ≤ R.slots) (hdg : decode cc pc = .ok (.newarray .int, 2))
    (kk : ∀ (q : Nat) (H1 : Heap), va_P E.1 vwCl (ws ++ [(q, .inl (E.2.1, N, .inl (fun _ => 0)))]) H1 → va_D A (ws ++ [(q, .inl (E.2.1, N, .inl (fun _ => 0)))]) → va_S A s.heap H1 locs → W p l e R s m args below meth c H1 locs (cells + 1) (slots + N) Q (F0 m (pc + 2) ls (.ref q :: rest))) : W p l e R s m args below meth c H locs cells slots Q (F0 m pc ls (.int n :: rest)) := by
  refine va_newa (atype := .int) (ty := .int) (a0 := (N, .inl (fun _ => 0))) hexec hb harr rfl hK hP hD hS hA (fun _ => rfl) hn hN hbytes hcells hslots hdg (fun q cA H1 hK1 hP1 hD1 hS1 => ?_)
  have h1 : s.vm.findClass ("[" ++ FieldType.int.toString) = some cA := (hK1.2 3 (cA, .int) rfl).2
  have h2 : s.vm.findClass ("[" ++ FieldType.int.toString) = some E.2.1 := (hK1.2 0 (E.2.1, .int) rfl).2
  have e9 : cA = E.2.1 := Option.some.inj (h1.symm.trans h2)
  rw [e9] at hP1 hD1
  exact kk q H1 hP1 hD1 hS1
theorem xnewB (N : Nat) (hexec : p.tables.exec = Jvm.exec) (hb : c.code = cc) (harr : (Cond.arrayClass .byte).before args s = true) (hK : va_K E.1 vwCl (xTy E) s) (hP : va_P E.1 vwCl ws H) (hD : va_D A ws) (hS : va_S A s.heap H locs) (hA : ∀ q, s.heap.size ≤ q → A q) {n : Int32} (hn : ¬ n < 0) (hN : n.toNatClampNeg = N) (hbytes : N * componentBytes .byte ≤ 536870912) (hcells : cells + 1 ≤ R.cells) (hslots : slots + N ≤ R.slots) (hdg : decode cc pc = .ok (.newarray .byte, 2))
    (kk : ∀ (q : Nat) (H1 : Heap), va_P E.1 vwCl (ws ++ [(q, .inl (E.2.2.1, N, .inl (fun _ => 0)))]) H1 → va_D A (ws ++ [(q, .inl (E.2.2.1, N, .inl (fun _ => 0)))]) → va_S A s.heap H1 locs → W p l e R s m args below meth c H1 locs (cells + 1) (slots + N) Q (F0 m (pc + 2) ls (.ref q :: rest))) : W p l e R s m args below meth c H locs cells slots Q (F0 m pc ls (.int n :: rest)) := by
  refine va_newa (atype := .byte) (ty := .byte) (a0 := (N, .inl (fun _ => 0))) hexec hb harr rfl hK hP hD hS hA (fun _ => rfl) hn hN hbytes hcells hslots hdg (fun q cA H1 hK1 hP1 hD1 hS1 => ?_)
  have h1 : s.vm.findClass ("[" ++ FieldType.byte.toString) = some cA := (hK1.2 3 (cA, .byte) rfl).2
  have h2 : s.vm.findClass ("[" ++ FieldType.byte.toString) = some E.2.2.1 := (hK1.2 1 (E.2.2.1, .byte) rfl).2
  have e9 : cA = E.2.2.1 := Option.some.inj (h1.symm.trans h2)
  rw [e9] at hP1 hD1
  exact kk q H1 hP1 hD1 hS1
end XNW
/-! new byte[15][576]: an outer array and its fifteen rows -/
def zO (c : ClassId) (h0 i : Nat) : Cell := arrV c 15 (fun j => va_rf (if j < i then some (h0 + 1 + j) else none))
def zI (c : ClassId) : Cell := arrV c 576 (fun _ => Value.int 0)
def zF (T : State) (cA cB : ClassId) : Nat → State
  | 0 => T.pushCell (zO cA T.heap.size 0)
  | i + 1 => ((zF T cA cB i).pushCell (zI cB)).setCell T.heap.size (zO cA T.heap.size (i + 1))
theorem zO_0 (c : ClassId) (h0 : Nat) : ({ cls := c, slots := Array.replicate 15 .null, vm := .none } : Cell) = zO c h0 0 := by
  rw [arrV_new]
  refine congrArg (arrV c 15) (funext fun j => ?_)
  simp [va_rf]
theorem zI_0 (c : ClassId) : ({ cls := c, slots := Array.replicate 576 (Value.int 0), vm := .none } : Cell) = zI c := arrV_new _ _ _
theorem zO_set (c : ClassId) (h0 i : Nat) : (zO c h0 i).setSlot i (.ref (h0 + 1 + i)) = zO c h0 (i + 1) := by
  unfold zO
  rw [arrV_store]
  refine congrArg (arrV c 15) (funext fun j => ?_)
  by_cases e : j = i
  · subst e
    simp [updV, va_rf]
  · by_cases h : j < i
    · simp [updV, e, h, Nat.lt_succ_of_lt h]
    · simp [updV, e, h, show ¬ j < i + 1 by omega]
theorem z_congr (c : ClassId) (N : Nat) {f g : Nat → Value} (h : ∀ j, j < N → f j = g j) : arrV c N f = arrV c N g := by
  unfold arrV
  rw [show (Array.ofFn (n := N) fun j => f j.val) = Array.ofFn (n := N) fun j => g j.val from congrArg _ (funext fun j => h j.val j.isLt)]
theorem zO_15 (c : ClassId) (h0 : Nat) : zO c h0 15 = arrV c 15 (fun j => va_rf (some (h0 + 1 + j))) := z_congr c 15 (fun j hj => by rw [if_pos hj])
theorem zO_sz (c : ClassId) (h0 i : Nat) : (zO c h0 i).slots.size = 15 := arrV_size _ _ _
theorem zI_sz (c : ClassId) : (zI c).slots.size = 576 := arrV_size _ _ _
theorem zF_f (T : State) (cA cB : ClassId) : ∀ i, (zF T cA cB i).heap.size = T.heap.size + 1 + i ∧ (zF T cA cB i).heap[T.heap.size]? = some (zO cA T.heap.size i) ∧ (zF T cA cB i).vm = T.vm ∧ (zF T cA cB i).slotsUsed = T.slotsUsed + 15 + i * 576
  | 0 => ⟨by simp [zF], by simp [zF], rfl, by simp [zF, zO_sz]⟩
  | i + 1 => by
    obtain ⟨a, b, d, u⟩ := zF_f T cA cB i
    have hlt : T.heap.size < (zF T cA cB i).heap.size := by omega
    have hb : ((zF T cA cB i).pushCell (zI cB)).heap[T.heap.size]? = some (zO cA T.heap.size i) := by
      rw [State.heap_pushCell_of_lt (h := hlt)]
      exact b
    refine ⟨?_, State.heap_setCell_self hb, by simp [zF, d], ?_⟩
    · simp [zF, State.setCell, a]
      omega
    · simp [zF, u, zI_sz]
      omega
theorem zF_top (T : State) (f : JFrame) (cA cB : ClassId) : ∀ i, zF (T.setTop f) cA cB i = (zF T cA cB i).setTop f
  | 0 => rfl
  | i + 1 => by simp only [zF, zF_top T f cA cB i, State.heap_setTop, State.pushCell_setTop, State.setCell_setTop]
theorem zF_old (T : State) (cA cB : ClassId) {a : Nat} (ha : a < T.heap.size) : ∀ i, (zF T cA cB i).heap[a]? = T.heap[a]?
  | 0 => State.heap_pushCell_of_lt _ _ ha
  | i + 1 => by
    have f1 := (zF_f T cA cB i).1
    have hlt : a < (zF T cA cB i).heap.size := by rw [f1]; omega
    show (((zF T cA cB i).pushCell (zI cB)).setCell T.heap.size _).heap[a]? = _
    rw [State.heap_setCell_other (Nat.ne_of_gt ha), State.heap_pushCell_of_lt (h := hlt)]
    exact zF_old T cA cB ha i
theorem zF_row (T : State) (cA cB : ClassId) : ∀ i j, j < i → (zF T cA cB i).heap[T.heap.size + 1 + j]? = some (zI cB)
  | 0, _, h => absurd h (Nat.not_lt_zero _)
  | i + 1, j, h => by
    have f1 := (zF_f T cA cB i).1
    show (((zF T cA cB i).pushCell (zI cB)).setCell T.heap.size _).heap[T.heap.size + 1 + j]? = _
    rw [State.heap_setCell_other (show T.heap.size ≠ T.heap.size + 1 + j by omega)]
    rcases Nat.lt_or_ge j i with hj | hj
    · rw [State.heap_pushCell_of_lt (h := (by rw [f1]; omega : T.heap.size + 1 + j < (zF T cA cB i).heap.size))]
      exact zF_row T cA cB i j hj
    · obtain rfl : j = i := by omega
      rw [← f1]
      exact State.heap_pushCell_size _ _
section ZW
variable {Ec : CtlPost} {e : Env} {d : Bool} {acts : List Action} {s : State}
theorem z_new {c comp : ClassId} {k : Class} {ty : FieldType} {n : Nat} {v : Value} (hk : s.vm.classes[c]? = some k) (hkind : k.kind = .array comp ty) (hl : ¬ n > e.platform.arrayLengthLimit) (hh : ¬ n * componentBytes ty > e.platform.maxHeapBytes) (hfit : fits ty v = true) (hdef : v.isDefault = true) {Q : Addr → Pre}
    (h1 : s.heap.size < e.platform.maxCells) (h2 : s.slotsUsed + n ≤ e.platform.maxSlots) (hq : Q s.heap.size d acts (s.pushCell { cls := c, slots := Array.replicate n v, vm := .none })) : wp (Jvm.newArray c n v) Q Ec e d acts s := by
  have hfits : ∀ i w, (Array.replicate n v)[i]? = some w → s.fitsSlot c .none i w = true := by
    intro i w hw
    simp only [Array.getElem?_replicate] at hw
    split at hw
    · cases hw
      simp [State.fitsSlot, State.slotType?, hk, hkind, hfit]
    · cases hw
  have hda : allocActs (Array.replicate n v) s.heap.size acts = acts := by
    have hall : ((Array.replicate n v).all (·.isDefault)) = true := by
      rw [Array.all_replicate]
      split <;> simp [hdef]
    unfold allocActs
    rw [if_pos hall]
  simp only [Jvm.newArray, Jvm.arrayFits, wp_bind', W.ask, W.ite, hl, if_false, wp_pure', W.theClass, hk, hkind, hh, W.alloc, W.stop, Option.some.injEq, exists_eq_left', Array.size_replicate, hda]
  rw [if_neg (by omega)]
  exact ⟨h1, h2, hfits, hq⟩
theorem z_make {c comp cz : ClassId} {k kc : Class} (hk : s.vm.classes[c]? = some k) (hkind : k.kind = .array comp (.array .byte)) (hkc : s.vm.classes[comp]? = some kc) (hkindc : kc.kind = .array cz .byte) (hl : ¬ 576 > e.platform.arrayLengthLimit) (hh : ¬ 576 > e.platform.maxHeapBytes)
    (hc : s.heap.size + 16 ≤ e.platform.maxCells) (hs : s.slotsUsed + 8655 ≤ e.platform.maxSlots) {Q : Addr → Pre} (hq : ∀ d' acts', Q s.heap.size d' acts' (zF s c comp 15)) : wp (multianewarray.make c [15, 576]) Q Ec e d acts s := by
  have n15 : (15 : Int32).toNatClampNeg = 15 := by decide
  have n576 : (576 : Int32).toNatClampNeg = 576 := by decide
  have hn : ¬ (15 : Int32) < 0 := by decide
  have hm : ¬ (576 : Int32) < 0 := by decide
  have hfind : ([(576 : Int32)].find? (· < 0)) = none := by simp [hm]
  rw [multianewarray.make]
  simp only [wp_bind', W.ite, hn, if_false, wp_pure', W.theClass, hk, hkind, Option.some.injEq, exists_eq_left', n15]
  refine z_new hk hkind (by omega) (by show ¬ 15 * 4 > _; omega) rfl rfl (by omega) (by omega) ?_
  rw [zO_0 c s.heap.size]
  simp only [hfind]
  rw [ite_self, wp_bind', Std.Legacy.Range.forIn_eq_forIn_range']
  have hsz : ([:15] : Std.Legacy.Range).size = 15 := by simp [Std.Legacy.Range.size]
  rw [hsz]
  show wp (forIn (List.range' 0 15 1) PUnit.unit _) _ Ec e d acts _
  refine wp_forIn_inv (fun rest s' => ∃ i, i ≤ 15 ∧ rest = List.range' i (15 - i) ∧ s' = zF s c comp i) _ _ ⟨0, Nat.zero_le _, rfl, rfl⟩ ?_ ?_
  · rintro x rest s' d' acts' Q' ⟨i, hi, hl2, rfl⟩ hnext
    have hlt : i < 15 := by
      rcases Nat.lt_or_ge i 15 with h | h
      · exact h
      · rw [show 15 - i = 0 by omega] at hl2
        simp at hl2
    obtain ⟨rfl, hrest⟩ : x = i ∧ rest = List.range' (i + 1) (15 - (i + 1)) := by
      rw [show 15 - i = (15 - (i + 1)) + 1 by omega, List.range'_succ] at hl2
      exact ⟨(List.cons.inj hl2).1, (List.cons.inj hl2).2⟩
    obtain ⟨f1, f2, f3, f4⟩ := zF_f s c comp x
    have hlt0 : s.heap.size < (zF s c comp x).heap.size := by omega
    simp only [wp_bind']
    rw [multianewarray.make]
    simp only [wp_bind', W.ite, hm, if_false, wp_pure', W.theClass, f3, hkc, hkindc, Option.some.injEq, exists_eq_left', n576]
    refine z_new (by rw [f3]; exact hkc) hkindc hl (by show ¬ 576 * 1 > _; omega) rfl rfl (by omega) (by omega) ?_
    rw [show defaultValue FieldType.byte = Value.int 0 from rfl, zI_0]
    simp only [wp_bind', W.writeLoc, wp_pure']
    refine ⟨zO c s.heap.size x, by rw [State.heap_pushCell_of_lt (h := hlt0)]; exact f2, (fun h => by cases h), by rw [zO_sz]; exact hlt, ?_, hnext _ _ _ ⟨x + 1, hlt, hrest, ?_⟩⟩
    · show State.fitsSlot _ c .none x _ = true
      simp [State.fitsSlot, State.slotType?, f3, hk, hkind]
      rfl
    · rw [f1, zO_set]
      rfl
  · rintro s' d' acts' ⟨i, hi, hl2, rfl⟩
    obtain rfl : i = 15 := by
      rcases Nat.lt_or_ge i 15 with h | h
      · rw [show 15 - i = (15 - (i + 1)) + 1 by omega, List.range'_succ] at hl2
        cases hl2
      · omega
    simp only [wp_pure']
    exact hq _ _
end ZW
section ZS
variable {p : Program} {l : Launch} {e : Env} {R : Room} {s : State} {m : MethodId} {args : Array Value} {below : List Frame} {meth : Method} {c : Code} {T : State} {locs : List Loc} {cells slots : Nat}
theorem z_stand (X : Stand p l e R s m args below meth c T locs cells slots) (cA cB : ClassId) : ∀ i, Stand p l e R s m args below meth c (zF T cA cB i) (locs ++ (List.range i).map fun j => ⟨T.heap.size, j⟩) (cells + 1 + i) (slots + 15 + i * 576)
  | 0 => by
    have h := X.pushed (zO cA T.heap.size 0)
    rw [zO_sz] at h
    simpa [zF] using h
  | i + 1 => by
    have Xi := z_stand X cA cB i
    obtain ⟨f1, f2, f3, f4⟩ := zF_f T cA cB i
    have hlt : T.heap.size < (zF T cA cB i).heap.size := by omega
    have hcell : ((zF T cA cB i).pushCell (zI cB)).heap[T.heap.size]? = some (zO cA T.heap.size i) := by
      rw [State.heap_pushCell_of_lt (h := hlt)]
      exact f2
    have h := (Xi.pushed (zI cB)).stored hcell i (.ref (T.heap.size + 1 + i))
    rw [zI_sz, zO_set] at h
    have e2 : (locs ++ (List.range (i + 1)).map fun j => (⟨T.heap.size, j⟩ : Loc)) = (locs ++ (List.range i).map fun j => (⟨T.heap.size, j⟩ : Loc)) ++ [⟨T.heap.size, i⟩] := by simp [List.range_succ, List.append_assoc]
    rw [e2, show slots + 15 + (i + 1) * 576 = slots + 15 + i * 576 + 576 by omega]
    exact h
theorem z_step (X : Stand p l e R s m args below meth c T locs cells slots) (hexec : p.tables.exec = Jvm.exec) {own : String} {index : Nat} (hown : s.vm.findClass own = some m.cls) (hclink : (Cond.classLink own index "[[B").before args s = true) (hO : xAO s) (harr : (Cond.arrayClass .byte).before args s = true)
    {g : JFrame} (hg : g.method = m) (hdg : decode c.code g.pc = .ok (.multianewarray index 2, 4)) {rest : List Value} (hstack : g.stack = .int 576 :: .int 15 :: rest) (hcells : cells + 16 ≤ R.cells) (hslots : slots + 8655 ≤ R.slots) :
    ∃ (vm₁ : Vm) (cA cB : ClassId) (kA : Class), s.WarmedH vm₁ ∧ s.vm.findClass ("[" ++ (FieldType.array .byte).toString) = some cA ∧ s.vm.findClass (FieldType.array .byte).toString = some cB ∧ s.vm.classes[cA]? = some kA ∧ kA.kind = .array cB (.array .byte) ∧
      Stand p l e R s m args below meth c (zF (T.setVm vm₁) cA cB 15) (locs ++ (List.range 15).map fun j => ⟨T.heap.size, j⟩) (cells + 1 + 15) (slots + 15 + 15 * 576) ∧
      ∀ target, Steps p.tables e below ((zF (T.setVm vm₁) cA cB 15).setTop { g with pc := g.pc + 4, stack := .ref T.heap.size :: rest }) target → Steps p.tables e below (T.setTop g) target := by
  subst hg
  have hpl : e.platform.magicAccessors = ({} : Platform).magicAccessors := by rw [X.admits.platform]
  obtain ⟨cB, cA, kA, hcB, hkA, hkindA, hnA⟩ := hO
  obtain ⟨cB', kB, cz, hcB', hkB, hkindB⟩ := Cond.arrayClass_spec harr
  obtain rfl : cB' = cB := Option.some.inj (hcB'.symm.trans hcB)
  obtain ⟨c0, hfc0, hcl⟩ := Cond.classLink_spec hown hclink e.platform hpl
  obtain rfl : cA = c0 := Option.some.inj (hnA.symm.trans hfc0)
  obtain ⟨hg₁, hwarm₁, hready₁⟩ := State.classEntry (e := e) X.warmed hcl
  generalize T.vm.noted g.method.cls index (.cls cA) = vm₁ at hg₁ hwarm₁ hready₁
  have hal : s.vm.Alike vm₁ := hwarm₁.alike
  obtain ⟨kA₁, hkA₁, heA⟩ := hal.2.2 _ _ hkA
  obtain ⟨kB₁, hkB₁, heB⟩ := hal.2.2 _ _ hkB
  have hkA2 : kA₁.kind = .array cB' (.array .byte) := by rw [heA]; exact hkindA
  have hkB2 : kB₁.kind = .array cz .byte := by rw [heB]; exact hkindB
  have X₁ := X.noted hwarm₁
  obtain ⟨hr1, hr2⟩ := X.roomAbove hcells hslots
  refine ⟨vm₁, cA, cB', kA, hwarm₁, hnA, hcB, hkA, hkindA, z_stand X₁ cA cB' 15, fun target hrest => ?_⟩
  have hl : ¬ 576 > e.platform.arrayLengthLimit := by rw [Launch.admits_arrayLengthLimit X.admits]; omega
  have hh : ¬ 576 > e.platform.maxHeapBytes := by rw [Launch.admits_maxHeapBytes X.admits]; omega
  jvm_step X.here [hexec, hdg]
  simp only [multianewarray.sem, wp_bind', W.resolveClassAt_links (State.method?_setTop g X.here.top) hg₁]
  rw [W.popN, if_neg (by decide)]
  refine ⟨g, State.topJava?_setTop' (s := T.setVm vm₁) g X.here.top, [.int 15, .int 576], rest, rfl, hstack, ?_⟩
  simp only [List.mapM_cons, List.mapM_nil, wp_bind', wp_pure']
  refine z_make (k := kA₁) (kc := kB₁) (comp := cB') (cz := cz) hkA₁ hkA2 hkB₁ hkB2 hl hh (by show T.heap.size + 16 ≤ _; omega) (by show T.slotsUsed + 8655 ≤ _; omega) (fun d' acts' => ?_)
  have XF := z_stand X₁ cA cB' 15
  have eS : ((T.setTop g).setVm vm₁).setTop { g with stack := rest } = (T.setVm vm₁).setTop { g with stack := rest } := by
    show ((T.setVm vm₁).setTop g).setTop _ = _
    rw [State.setTop_setTop]
  rw [eS, zF_top]
  simp only [wp_bind', W.mark, W.pushRef, State.topJava?_setTop' _ XF.here.top, Option.some.injEq, exists_eq_left', State.setTop_setTop, State.heap_setTop]
  intro acts
  simp [jvm, XF.here.top]
  exact hrest
end ZS
section ZM
variable {p : Program} {l : Launch} {e : Env} {R : Room} {s : State} {m : MethodId} {args : Array Value} {below : List Frame} {meth : Method} {c : Code} {H : Heap} {locs : List Loc} {cells slots : Nat} {Q : State → Prop}
variable {cc : ByteArray} {pc : Nat} {ls : Array Slot} {rest : List Value} {A : Nat → Prop} {E : xE} {ws : va_W}
abbrev zW (E : xE) (q : Nat) (dq : Nat → Nat) : va_W := [(q, .inl (E.2.2.2.1, 15, .inr (.inr (.inr (.inr (fun j => some (dq j))))))), (dq 0, .inl (E.2.2.1, 576, .inl (fun _ => 0))), (dq 1, .inl (E.2.2.1, 576, .inl (fun _ => 0))), (dq 2, .inl (E.2.2.1, 576, .inl (fun _ => 0))), (dq 3, .inl (E.2.2.1, 576, .inl (fun _ => 0))), (dq 4, .inl (E.2.2.1, 576, .inl (fun _ => 0))), (dq 5, .inl (E.2.2.1, 576, .inl (fun _ => 0))), (dq 6, .inl (E.2.2.1, 576, .inl (fun _ => 0))), (dq 7, .inl (E.2.2.1, 576, .inl (fun _ => 0))), (dq 8, .inl (E.2.2.1, 576, .inl (fun _ => 0))), (dq 9, .inl (E.2.2.1, 576, .inl (fun _ => 0))), (dq 10, .inl (E.2.2.1, 576, .inl (fun _ => 0))), (dq 11, .inl (E.2.2.1, 576, .inl (fun _ => 0))), (dq 12, .inl (E.2.2.1, 576, .inl (fun _ => 0))), (dq 13, .inl (E.2.2.1, 576, .inl (fun _ => 0))), (dq 14, .inl (E.2.2.1, 576, .inl (fun _ => 0)))]
theorem zW_at (E : xE) (q : Nat) : ∀ x ∈ zW E q (fun j => q + 1 + j), x = (q, .inl (E.2.2.2.1, 15, .inr (.inr (.inr (.inr (fun j => some (q + 1 + j))))))) ∨ ∃ j, j < 15 ∧ x = (q + 1 + j, .inl (E.2.2.1, 576, .inl (fun _ => 0))) := by
  intro x hx
  simp only [zW, List.mem_cons, List.not_mem_nil, or_false] at hx
  rcases hx with h | h | h | h | h | h | h | h | h | h | h | h | h | h | h | h
  · exact Or.inl h
  · exact Or.inr ⟨0, by decide, h⟩
  · exact Or.inr ⟨1, by decide, h⟩
  · exact Or.inr ⟨2, by decide, h⟩
  · exact Or.inr ⟨3, by decide, h⟩
  · exact Or.inr ⟨4, by decide, h⟩
  · exact Or.inr ⟨5, by decide, h⟩
  · exact Or.inr ⟨6, by decide, h⟩
  · exact Or.inr ⟨7, by decide, h⟩
  · exact Or.inr ⟨8, by decide, h⟩
  · exact Or.inr ⟨9, by decide, h⟩
  · exact Or.inr ⟨10, by decide, h⟩
  · exact Or.inr ⟨11, by decide, h⟩
  · exact Or.inr ⟨12, by decide, h⟩
  · exact Or.inr ⟨13, by decide, h⟩
  · exact Or.inr ⟨14, by decide, h⟩
theorem zW_nd (E : xE) (q : Nat) : ((zW E q (fun j => q + 1 + j)).map Prod.fst).Nodup := by
  simp only [zW, List.map_cons, List.map_nil, List.nodup_cons, List.mem_cons, List.not_mem_nil, or_false, not_false_eq_true, List.nodup_nil, and_true]
  omega
theorem xmna (hexec : p.tables.exec = Jvm.exec) (hb : c.code = cc) {own : String} {index : Nat} (hown : s.vm.findClass own = some m.cls) (hclink : (Cond.classLink own index "[[B").before args s = true) (hN : xN s) (harr : (Cond.arrayClass .byte).before args s = true) (hK : va_K E.1 vwCl (xTy E) s) (hP : va_P E.1 vwCl ws H) (hD : va_D A ws) (hS : va_S A s.heap H locs) (hA : ∀ q, s.heap.size ≤ q → A q)
    (hcells : cells + 16 ≤ R.cells) (hslots : slots + 8655 ≤ R.slots) (hdg : decode cc pc = .ok (.multianewarray index 2, 4))
    (kk : ∀ (q : Nat) (dq : Nat → Nat) (H1 : Heap) (locs1 : List Loc), va_P E.1 vwCl (ws ++ zW E q dq) H1 → va_D A (ws ++ zW E q dq) → va_S A s.heap H1 locs1 → W p l e R s m args below meth c H1 locs1 (cells + 16) (slots + 8655) Q (F0 m (pc + 4) ls (.ref q :: rest))) : W p l e R s m args below meth c H locs cells slots Q (F0 m pc ls (.int 576 :: .int 15 :: rest)) := by
  subst hb
  intro T hT X
  obtain ⟨vm₁, cA, cB, kA, hw, fA, fB, hkA, hkindA, X', step⟩ := z_step X hexec hown hclink hN.2.2 harr (g := F0 m pc ls (.int 576 :: .int 15 :: rest)) rfl hdg rfl hcells hslots
  have eA : s.vm.findClass ("[" ++ (FieldType.array .byte).toString) = some E.2.2.2.1 := (hK.2 2 (E.2.2.2.1, .array .byte) rfl).2
  have eB : s.vm.findClass ("[" ++ FieldType.byte.toString) = some E.2.2.1 := (hK.2 1 (E.2.2.1, .byte) rfl).2
  have fB2 : s.vm.findClass ("[" ++ FieldType.byte.toString) = some cB := fB
  have qA : cA = E.2.2.2.1 := Option.some.inj (fA.symm.trans eA)
  have qB : cB = E.2.2.1 := Option.some.inj (fB2.symm.trans eB)
  subst qA
  subst qB
  rw [show cells + 1 + 15 = cells + 16 by omega, show slots + 15 + 15 * 576 = slots + 8655 by omega] at X'
  have hTs : (T.setVm vm₁).heap = H := hT
  obtain ⟨f1, f2, f3, f4⟩ := zF_f (T.setVm vm₁) E.2.2.2.1 E.2.2.1 15
  rw [hTs] at f1 f2
  have hrow := zF_row (T.setVm vm₁) E.2.2.2.1 E.2.2.1 15
  rw [hTs] at hrow
  have hold : ∀ a : Nat, a < H.size → (zF (T.setVm vm₁) E.2.2.2.1 E.2.2.1 15).heap[a]? = H[a]? := fun a ha => by
    have := zF_old (T.setVm vm₁) E.2.2.2.1 E.2.2.1 (a := a) (by rw [hTs]; exact ha) 15
    rw [this, hTs]
  generalize hH1 : (zF (T.setVm vm₁) E.2.2.2.1 E.2.2.1 15).heap = H1 at f1 f2 hrow hold
  have hlt : ∀ q ∈ ws, q.1 < H.size := fun q hq => by
    obtain ⟨k, hk⟩ := List.getElem?_of_mem hq
    exact (hP k q hk).lt
  have hP1 : va_P E.1 vwCl (ws ++ zW E H.size (fun j => H.size + 1 + j)) H1 := by
    refine (hP.kept fun k q hk => hold _ (hlt q (List.mem_of_getElem? hk))).app (xP_iff.mpr fun x hx => ?_)
    rcases zW_at E H.size x hx with rfl | ⟨j, hj, rfl⟩
    · show H1[H.size]? = some (vp_cell _ _)
      rw [f2, zO_15, vp_cell_q]
    · show H1[H.size + 1 + j]? = some (vp_cell _ _)
      rw [hrow j hj, vp_cell_i, zI]
  have hD1 : va_D A (ws ++ zW E H.size (fun j => H.size + 1 + j)) := by
    have hge : ∀ x ∈ zW E H.size (fun j => H.size + 1 + j), H.size ≤ x.1 := fun x hx => by
      rcases zW_at E H.size x hx with rfl | ⟨j, hj, rfl⟩
      · exact Nat.le_refl _
      · show H.size ≤ H.size + 1 + j
        omega
    refine xD_iff.mpr ⟨?_, fun x hx => ?_⟩
    · rw [List.map_append, List.nodup_append]
      refine ⟨(xD_iff.mp hD).1, zW_nd E H.size, fun a ha b hb2 hab => ?_⟩
      obtain ⟨x, hx, rfl⟩ := List.mem_map.mp ha
      obtain ⟨y, hy, rfl⟩ := List.mem_map.mp hb2
      have := hlt x hx
      have := hge y hy
      omega
    · rcases List.mem_append.mp hx with h | h
      · exact (xD_iff.mp hD).2 x h
      · exact hA _ (Nat.le_trans hS.1 (hge x h))
  have hS1 : va_S A s.heap H1 (locs ++ (List.range 15).map fun j => ⟨T.heap.size, j⟩) := by
    refine ⟨Nat.le_trans hS.1 (by omega), fun q h1 h2 => (hold q (Nat.lt_of_lt_of_le h1 hS.1)).trans (hS.2.1 q h1 h2), fun x hx => ?_⟩
    rcases List.mem_append.mp hx with h | h
    · exact hS.2.2 x h
    · obtain ⟨j, -, rfl⟩ := List.mem_map.mp h
      show A T.heap.size
      rw [hT]
      exact hA _ hS.1
  obtain ⟨t, a1, b1⟩ := kk H.size (fun j => H.size + 1 + j) H1 _ hP1 hD1 hS1 (zF (T.setVm vm₁) E.2.2.2.1 E.2.2.1 15) hH1 X'
  refine ⟨t, step t ?_, b1⟩
  rw [hT]
  exact a1
end ZM
