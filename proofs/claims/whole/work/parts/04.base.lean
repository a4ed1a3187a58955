/-! standard contracts: the program's and the reference's cells under one E = (tables of slots, word of int[], of byte[], of byte[][], place of the static array) -/
abbrev xE : Type := va_G × ClassId × ClassId × ClassId × Nat
abbrev xTy (E : xE) : List (ClassId × FieldType) := [(E.2.1, .int), (E.2.2.1, .byte), (E.2.2.2.1, .array .byte)]
def tb_order : Nat → Int32 := fun k => match k with
  | 0 => 16
  | 1 => 17
  | 2 => 18
  | 3 => 0
  | 4 => 8
  | 5 => 7
  | 6 => 9
  | 7 => 6
  | 8 => 10
  | 9 => 5
  | 10 => 11
  | 11 => 4
  | 12 => 12
  | 13 => 3
  | 14 => 13
  | 15 => 2
  | 16 => 14
  | 17 => 1
  | _ => 15
def xI (E : xE) (A : Nat → Prop) (U : State) (H : Heap) : Prop := va_Z "PieceRow" "LENGTH_ORDER" "[I" (.ref E.2.2.2.2) A U H ∧ va_T .int E.2.2.2.2 19 (fun k => .int (tb_order k)) A U H
theorem xI.moved {E : xE} {A : Nat → Prop} {u U : State} {H : Heap} (hvm : u.vm.Alike U.vm) (h : xI E A u H) : xI E A U H := ⟨h.1.moved hvm, h.2.moved hvm⟩
theorem xI.kept {E : xE} {A : Nat → Prop} {U : State} {H H1 : Heap} (h : xI E A U H) (hq : ∀ a : Nat, a < H.size → ¬ A a → H1[a]? = H[a]?) : xI E A U H1 := ⟨h.1.kept hq, h.2.kept hq⟩
theorem xI.narrow {E : xE} {A B : Nat → Prop} {U : State} {H : Heap} (h : xI E A U H) (hAB : ∀ q, B q → A q) : xI E B U H := ⟨h.1.narrow hAB, h.2.narrow hAB⟩
def xAO (U : State) : Prop := ∃ (comp cA : ClassId) (kA : Class), U.vm.findClass (FieldType.array .byte).toString = some comp ∧ U.vm.classes[cA]? = some kA ∧ kA.kind = .array comp (.array .byte) ∧ U.vm.findClass ("[" ++ (FieldType.array .byte).toString) = some cA
theorem xAO.moved {u U : State} (hvm : u.vm.Alike U.vm) (h : xAO u) : xAO U := by
  obtain ⟨comp, cA, kA, h1, h2, h3, h4⟩ := h
  obtain ⟨k', hk', he⟩ := hvm.2.2 _ _ h2
  exact ⟨comp, cA, k', by rw [hvm.findClass]; exact h1, hk', by rw [he]; exact h3, by rw [hvm.findClass]; exact h4⟩
def xN (U : State) : Prop := (∀ q ∈ x_nM, va_Nw (.methodLinkNest q.1 q.2.1 q.2.2.1 q.2.2.2) U) ∧ (∀ q ∈ x_nF, va_Nw (.fieldLinkNest q.1 q.2.1 q.2.2.1 q.2.2.2.1 q.2.2.2.2.1 q.2.2.2.2.2) U) ∧ xAO U
theorem xN.warm {s U : State} (h : xN s) (hW : s.WarmedH U.vm) : xN U := ⟨fun q hq => va_Nw.warmM hW (h.1 q hq), fun q hq => va_Nw.warmF hW (h.2.1 q hq), xAO.moved hW.alike h.2.2⟩
theorem xN.same {u U : State} (h : u.vm = U.vm) (hN : xN u) : xN U := ⟨fun q hq => va_Nw.same rfl h (hN.1 q hq), fun q hq => va_Nw.same rfl h (hN.2.1 q hq), by unfold xAO; rw [← h]; exact hN.2.2⟩
def xPre (E : xE) (wc : va_W) (sz : Nat) (U : State) : Prop := U.heap.size = sz ∧ va_P E.1 vwCl wc U.heap ∧ va_K E.1 vwCl (xTy E) U ∧ va_D (fun _ => True) wc ∧ xI E (va_A wc sz) U U.heap ∧ xN U
def xPost (E : xE) (A : Nat → Prop) (wn : va_W) (t : State) : Prop := va_P E.1 vwCl wn t.heap ∧ va_K E.1 vwCl (xTy E) t ∧ va_D A wn
def xQi {S : Type} (E : xE) (post : Int32 → S → Prop) (wn : S → va_W) (A : Nat → Prop) : Array Value → State → Outcome → State → Prop := va_Qi post (fun u t => xPost E A (wn u) t) A
def xQl {S : Type} (E : xE) (post : Int64 → S → Prop) (wn : S → va_W) (A : Nat → Prop) : Array Value → State → Outcome → State → Prop := va_Ql post (fun u t => xPost E A (wn u) t) A
def xQv {S : Type} (E : xE) (post : S → Prop) (wn : S → va_W) (A : Nat → Prop) : Array Value → State → Outcome → State → Prop := va_Qv post (fun u t => xPost E A (wn u) t) A
theorem xBlind {E : xE} {av : List Value} {wc : va_W} {sz : Nat} : FrameBlind (va_Pc av (xPre E wc sz)) := fun a U g mk q => by
  obtain ⟨q0, q1, qP, qK, qD, qI, qN⟩ := q
  exact ⟨q0, q1, qP, va_K.moved (u := U) (U := U.calling g mk a) (Vm.Alike.refl U.vm) qK, qD, xI.moved (u := U) (U := U.calling g mk a) (Vm.Alike.refl U.vm) qI, xN.same (u := U) (U := U.calling g mk a) rfl qN⟩
theorem xnz {x : Int32} (h : x = 0 ∨ x = 1) : narrow .boolean (.int x) = .int x := by
  rcases h with rfl | rfl <;> rfl
theorem xfz {x : Int32} (h : x = 0 ∨ x = 1) : fits .boolean (.int x) = true := by
  rcases h with rfl | rfl <;> rfl
theorem xU {E : xE} {A : Nat → Prop} {wc : va_W} {s U : State} {H : Heap} {locs : List Loc} {As : List Value} (hP : va_P E.1 vwCl wc H) (hD : va_D A wc) (hF : ∀ q, va_A wc H.size q → A q) (hK : va_K E.1 vwCl (xTy E) s) (hI : xI E A s s.heap) (hN : xN s) (hS : va_S A s.heap H locs) (hU : U.heap = H) (hW : s.WarmedH U.vm) : va_Pc As (xPre E wc H.size) As.toArray U := by
  refine ⟨rfl, by rw [hU], by rw [hU]; exact hP, va_K.moved hW.alike hK, hD.weaken (fun _ _ _ _ => trivial), ?_, hN.warm hW⟩
  rw [hU]
  exact xI.moved hW.alike ((hI.kept hS.2.1).narrow hF)
theorem xPV {E : xE} {A : Nat → Prop} {wc : va_W} {s : State} {H : Heap} {locs : List Loc} {b : Nat} {As : List Value} {q : vw_C} {fs : List Value} (ci q0 : Nat) (hc : vwCl[ci]? = some q) (he : wc[q0]? = some (b, .inr (ci, fs))) (hP : va_P E.1 vwCl wc H) (hD : va_D A wc) (hF : ∀ q, va_A wc H.size q → A q) (hK : va_K E.1 vwCl (xTy E) s) (hI : xI E A s s.heap) (hN : xN s) (hS : va_S A s.heap H locs) : PreV s H q.1 b (va_Pc (.ref b :: As) (xPre E wc H.size)) As :=
  ⟨xBlind, va_recv hK hP hc he, fun _ hU hW => xU hP hD hF hK hI hN hS hU hW⟩
theorem xPS {E : xE} {A : Nat → Prop} {wc : va_W} {s : State} {H : Heap} {locs : List Loc} {As : List Value} (hP : va_P E.1 vwCl wc H) (hD : va_D A wc) (hF : ∀ q, va_A wc H.size q → A q) (hK : va_K E.1 vwCl (xTy E) s) (hI : xI E A s s.heap) (hN : xN s) (hS : va_S A s.heap H locs) : PreS s H (va_Pc As (xPre E wc H.size)) As :=
  ⟨xBlind, fun _ hU hW => xU hP hD hF hK hI hN hS hU hW⟩
section XC
variable {p : Program} {l : Launch} {e : Env} {R : Room} {s : State} {m : MethodId} {args : Array Value} {below : List Frame} {meth : Method} {c : Code} {H : Heap} {locs : List Loc} {cells slots : Nat} {Q : State → Prop}
variable {pc : Nat} {ls : Array Slot} {rest st0 : List Value} {a : Array Value} {A : Nat → Prop} {mc ms : Nat} {E : xE} {ws wc wr : va_W}
theorem xci {S : Type} {post : Int32 → S → Prop} {wn : S → va_W} (hr : va_Run p l e R s m args below meth c H locs cells slots mc ms (F0 m pc ls st0) rest (xQi E post wn (va_A wc H.size) a) (va_A wc H.size))
    (hP : va_P E.1 vwCl ws H) (hD : va_D A ws) (hS : va_S A s.heap H locs) (hA : ∀ q, s.heap.size ≤ q → A q) (isC isR : List Nat) (hC : isC.map (fun i => ws[i]?) = wc.map some) (hR : isR.map (fun i => ws[i]?) = wr.map some) (hn : va_nd isR = true) (hdis : ∀ i ∈ isR, i ∉ isC)
    (kk : ∀ (r : Int32) (u : S) (H1 : Heap) (locs1 : List Loc), post r u → va_P E.1 vwCl (wr ++ wn u) H1 → va_D A (wr ++ wn u) → va_S A s.heap H1 locs1 → W p l e R s m args below meth c H1 locs1 (cells + mc) (slots + ms) Q (F0 m (pc + 3) ls (.int r :: rest))) : W p l e R s m args below meth c H locs cells slots Q (F0 m pc ls st0) := by
  have hF := va_free (wc := wc) hD hS hA isC hC
  refine va_calli hr hS (fun q _ h => hF q h) hF (fun r u t H1 locs1 ht hvm hw hB hz hk hS1 => ?_)
  obtain ⟨hP1, hK1, hD1⟩ := hB
  rw [ht] at hP1
  obtain ⟨hP2, hD2⟩ := va_join (wr := wr) (w1 := wn u) hP hD isC isR hC hR hn hdis hk hF hP1 hD1
  exact kk r u H1 locs1 hw hP2 hD2 hS1
theorem xcl {S : Type} {post : Int64 → S → Prop} {wn : S → va_W} (hr : va_Run p l e R s m args below meth c H locs cells slots mc ms (F0 m pc ls st0) rest (xQl E post wn (va_A wc H.size) a) (va_A wc H.size))
    (hP : va_P E.1 vwCl ws H) (hD : va_D A ws) (hS : va_S A s.heap H locs) (hA : ∀ q, s.heap.size ≤ q → A q) (isC isR : List Nat) (hC : isC.map (fun i => ws[i]?) = wc.map some) (hR : isR.map (fun i => ws[i]?) = wr.map some) (hn : va_nd isR = true) (hdis : ∀ i ∈ isR, i ∉ isC)
    (kk : ∀ (r : Int64) (u : S) (H1 : Heap) (locs1 : List Loc), post r u → va_P E.1 vwCl (wr ++ wn u) H1 → va_D A (wr ++ wn u) → va_S A s.heap H1 locs1 → W p l e R s m args below meth c H1 locs1 (cells + mc) (slots + ms) Q (F0 m (pc + 3) ls (.long r :: rest))) : W p l e R s m args below meth c H locs cells slots Q (F0 m pc ls st0) := by
  have hF := va_free (wc := wc) hD hS hA isC hC
  refine va_calll hr hS (fun q _ h => hF q h) hF (fun r u t H1 locs1 ht hvm hw hB hz hk hS1 => ?_)
  obtain ⟨hP1, hK1, hD1⟩ := hB
  rw [ht] at hP1
  obtain ⟨hP2, hD2⟩ := va_join (wr := wr) (w1 := wn u) hP hD isC isR hC hR hn hdis hk hF hP1 hD1
  exact kk r u H1 locs1 hw hP2 hD2 hS1
theorem xcv {S : Type} {post : S → Prop} {wn : S → va_W} (hr : va_Run p l e R s m args below meth c H locs cells slots mc ms (F0 m pc ls st0) rest (xQv E post wn (va_A wc H.size) a) (va_A wc H.size))
    (hP : va_P E.1 vwCl ws H) (hD : va_D A ws) (hS : va_S A s.heap H locs) (hA : ∀ q, s.heap.size ≤ q → A q) (isC isR : List Nat) (hC : isC.map (fun i => ws[i]?) = wc.map some) (hR : isR.map (fun i => ws[i]?) = wr.map some) (hn : va_nd isR = true) (hdis : ∀ i ∈ isR, i ∉ isC)
    (kk : ∀ (u : S) (H1 : Heap) (locs1 : List Loc), post u → va_P E.1 vwCl (wr ++ wn u) H1 → va_D A (wr ++ wn u) → va_S A s.heap H1 locs1 → W p l e R s m args below meth c H1 locs1 (cells + mc) (slots + ms) Q (F0 m (pc + 3) ls rest)) : W p l e R s m args below meth c H locs cells slots Q (F0 m pc ls st0) := by
  have hF := va_free (wc := wc) hD hS hA isC hC
  refine va_callv hr hS (fun q _ h => hF q h) hF (fun u t H1 locs1 ht hvm hw hB hz hk hS1 => ?_)
  obtain ⟨hP1, hK1, hD1⟩ := hB
  rw [ht] at hP1
  obtain ⟨hP2, hD2⟩ := va_join (wr := wr) (w1 := wn u) hP hD isC isR hC hR hn hdis hk hF hP1 hD1
  exact kk u H1 locs1 hw hP2 hD2 hS1
end XC
section XN
variable {l : Launch} {y : MethodName} {rm : Room} {cc : ByteArray} {maxL : Nat} {E : xE} {av : List Value} {wc : va_W} {sz mc ms : Nat}
theorem xEn {ret : Option FieldType} (Qf : (Nat → Prop) → Array Value → State → Outcome → State → Prop) (hy : plainName y.cls = true) (hlen : (lg_sl av).length ≤ maxL)
    (body : ∀ (p : Program) (e : Env) (s : State) (m : MethodId) (args : Array Value) (below : List Frame) (meth : Method) (c : Code) (A : Nat → Prop) (ls : Array Slot), p.tables.exec = Jvm.exec → c.code = cc → meth.sig.returnType = ret → meth.locks = false → meth.name = y.name → (∀ w ∈ x_tb, w.before args s = true) → s.vm.findClass y.cls = some m.cls → c.maxLocals = maxL → va_K E.1 vwCl (xTy E) s → (∀ q, s.heap.size ≤ q → A q) → xI E A s s.heap → xN s → va_P E.1 vwCl wc s.heap → va_D A wc → lv_has ls maxL (lv_args 0 av) →
      W p l e rm s m args below meth c s.heap [] 0 0 (MQ below (Qf A) args s mc ms A) (F0 m 0 ls [])) : Met l y (Cond.code y cc maxL ret :: x_tb) rm (va_Pc av (xPre E wc sz)) (Qf (va_A wc sz)) mc ms (va_A wc sz) := by
  refine Met.ofW (cc := cc) (maxL := maxL) (ret := ret) hy rfl ?_
  intro p e s m args below meth c s₁ B hml hv
  obtain ⟨rfl, hsz, hP, hK, hD0, hI, hN⟩ := hv
  subst hsz
  have hD := hD0.self (sz := s.heap.size)
  have hl := lv_entry av (n := maxL) hlen
  rw [lg_entry_eq]
  exact body p e s m av.toArray below meth c (va_A wc s.heap.size) _ B.exec B.bytes B.returns B.notSynchronized (name_of_methodNamed B.named B.method).1 (fun w h => atoms_spec (ws := Cond.code y cc maxL ret :: x_tb) B.pre w (List.mem_cons_of_mem _ h)) (findClass_of_methodNamed B.named) hml hK (fun q h => Or.inr h) hI hN hP hD hl
theorem xEnI {S : Type} {post : Int32 → S → Prop} {wn : S → va_W} (hy : plainName y.cls = true) (hlen : (lg_sl av).length ≤ maxL)
    (body : ∀ (p : Program) (e : Env) (s : State) (m : MethodId) (args : Array Value) (below : List Frame) (meth : Method) (c : Code) (A : Nat → Prop) (ls : Array Slot) (Q : State → Prop), p.tables.exec = Jvm.exec → c.code = cc → meth.name = y.name → (∀ w ∈ x_tb, w.before args s = true) → s.vm.findClass y.cls = some m.cls → c.maxLocals = maxL → va_K E.1 vwCl (xTy E) s → (∀ q, s.heap.size ≤ q → A q) → xI E A s s.heap → xN s →
      (∀ {pc : Nat} {ls : Array Slot} {H : Heap} {locs : List Loc} {r : Int32} {u : S}, decode cc pc = .ok (.ireturn, 1) → post r u → va_P E.1 vwCl (wn u) H → va_D A (wn u) → va_S A s.heap H locs → W p l e rm s m args below meth c H locs mc ms Q (F0 m pc ls [.int r])) →
      va_P E.1 vwCl wc s.heap → va_D A wc → va_S A s.heap s.heap [] → lv_has ls maxL (lv_args 0 av) → W p l e rm s m args below meth c s.heap [] 0 0 Q (F0 m 0 ls [])) : Met l y (Cond.code y cc maxL (some .int) :: x_tb) rm (va_Pc av (xPre E wc sz)) (xQi E post wn (va_A wc sz)) mc ms (va_A wc sz) :=
  xEn (fun A => xQi E post wn A) hy hlen (fun p e s m args below meth c A ls hx hb hr hlocks hnm hts hown hml hK hA hI hN hP hD hl =>
    body p e s m args below meth c A ls _ hx hb hnm hts hown hml hK hA hI hN
      (fun {_ _ _ _ r u} hd hp hP hD hS => W.iret hx hb hr (fun t ht hW => ⟨⟨r, u, rfl, hp, by rw [ht]; exact hP, va_K.moved hW.alike hK, hD⟩, hS.F ht⟩) hS.2.2 hd hlocks) hP hD va_S.rf hl)
theorem xEnZ {S : Type} {post : Int32 → S → Prop} {wn : S → va_W} (hy : plainName y.cls = true) (hlen : (lg_sl av).length ≤ maxL)
    (body : ∀ (p : Program) (e : Env) (s : State) (m : MethodId) (args : Array Value) (below : List Frame) (meth : Method) (c : Code) (A : Nat → Prop) (ls : Array Slot) (Q : State → Prop), p.tables.exec = Jvm.exec → c.code = cc → meth.name = y.name → (∀ w ∈ x_tb, w.before args s = true) → s.vm.findClass y.cls = some m.cls → c.maxLocals = maxL → va_K E.1 vwCl (xTy E) s → (∀ q, s.heap.size ≤ q → A q) → xI E A s s.heap → xN s →
      (∀ {pc : Nat} {ls : Array Slot} {H : Heap} {locs : List Loc} {r : Int32} {u : S}, decode cc pc = .ok (.ireturn, 1) → (r = 0 ∨ r = 1) → post r u → va_P E.1 vwCl (wn u) H → va_D A (wn u) → va_S A s.heap H locs → W p l e rm s m args below meth c H locs mc ms Q (F0 m pc ls [.int r])) →
      va_P E.1 vwCl wc s.heap → va_D A wc → va_S A s.heap s.heap [] → lv_has ls maxL (lv_args 0 av) → W p l e rm s m args below meth c s.heap [] 0 0 Q (F0 m 0 ls [])) : Met l y (Cond.code y cc maxL (some .boolean) :: x_tb) rm (va_Pc av (xPre E wc sz)) (xQi E post wn (va_A wc sz)) mc ms (va_A wc sz) :=
  xEn (fun A => xQi E post wn A) hy hlen (fun p e s m args below meth c A ls hx hb hr hlocks hnm hts hown hml hK hA hI hN hP hD hl =>
    body p e s m args below meth c A ls _ hx hb hnm hts hown hml hK hA hI hN
      (fun {_ _ _ _ r u} hd hz hp hP hD hS => W.zret hx hb hr (xnz hz) (fun t ht hW => ⟨⟨r, u, rfl, hp, by rw [ht]; exact hP, va_K.moved hW.alike hK, hD⟩, hS.F ht⟩) hS.2.2 hd hlocks) hP hD va_S.rf hl)
theorem xEnL {S : Type} {post : Int64 → S → Prop} {wn : S → va_W} (hy : plainName y.cls = true) (hlen : (lg_sl av).length ≤ maxL)
    (body : ∀ (p : Program) (e : Env) (s : State) (m : MethodId) (args : Array Value) (below : List Frame) (meth : Method) (c : Code) (A : Nat → Prop) (ls : Array Slot) (Q : State → Prop), p.tables.exec = Jvm.exec → c.code = cc → meth.name = y.name → (∀ w ∈ x_tb, w.before args s = true) → s.vm.findClass y.cls = some m.cls → c.maxLocals = maxL → va_K E.1 vwCl (xTy E) s → (∀ q, s.heap.size ≤ q → A q) → xI E A s s.heap → xN s →
      (∀ {pc : Nat} {ls : Array Slot} {H : Heap} {locs : List Loc} {r : Int64} {u : S}, decode cc pc = .ok (.lreturn, 1) → post r u → va_P E.1 vwCl (wn u) H → va_D A (wn u) → va_S A s.heap H locs → W p l e rm s m args below meth c H locs mc ms Q (F0 m pc ls [.long r])) →
      va_P E.1 vwCl wc s.heap → va_D A wc → va_S A s.heap s.heap [] → lv_has ls maxL (lv_args 0 av) → W p l e rm s m args below meth c s.heap [] 0 0 Q (F0 m 0 ls [])) : Met l y (Cond.code y cc maxL (some .long) :: x_tb) rm (va_Pc av (xPre E wc sz)) (xQl E post wn (va_A wc sz)) mc ms (va_A wc sz) :=
  xEn (fun A => xQl E post wn A) hy hlen (fun p e s m args below meth c A ls hx hb hr hlocks hnm hts hown hml hK hA hI hN hP hD hl =>
    body p e s m args below meth c A ls _ hx hb hnm hts hown hml hK hA hI hN
      (fun {_ _ _ _ r u} hd hp hP hD hS => W.lret hx hb hr (fun t ht hW => ⟨⟨r, u, rfl, hp, by rw [ht]; exact hP, va_K.moved hW.alike hK, hD⟩, hS.F ht⟩) hS.2.2 hd hlocks) hP hD va_S.rf hl)
theorem xEnV {S : Type} {post : S → Prop} {wn : S → va_W} (hy : plainName y.cls = true) (hlen : (lg_sl av).length ≤ maxL)
    (body : ∀ (p : Program) (e : Env) (s : State) (m : MethodId) (args : Array Value) (below : List Frame) (meth : Method) (c : Code) (A : Nat → Prop) (ls : Array Slot) (Q : State → Prop), p.tables.exec = Jvm.exec → c.code = cc → meth.name = y.name → (∀ w ∈ x_tb, w.before args s = true) → s.vm.findClass y.cls = some m.cls → c.maxLocals = maxL → va_K E.1 vwCl (xTy E) s → (∀ q, s.heap.size ≤ q → A q) → xI E A s s.heap → xN s →
      (∀ {pc : Nat} {ls : Array Slot} {H : Heap} {locs : List Loc} {u : S}, decode cc pc = .ok (.return_, 1) → post u → va_P E.1 vwCl (wn u) H → va_D A (wn u) → va_S A s.heap H locs → W p l e rm s m args below meth c H locs mc ms Q (F0 m pc ls [])) →
      va_P E.1 vwCl wc s.heap → va_D A wc → va_S A s.heap s.heap [] → lv_has ls maxL (lv_args 0 av) → W p l e rm s m args below meth c s.heap [] 0 0 Q (F0 m 0 ls [])) : Met l y (Cond.code y cc maxL none :: x_tb) rm (va_Pc av (xPre E wc sz)) (xQv E post wn (va_A wc sz)) mc ms (va_A wc sz) :=
  xEn (fun A => xQv E post wn A) hy hlen (fun p e s m args below meth c A ls hx hb hr hlocks hnm hts hown hml hK hA hI hN hP hD hl =>
    body p e s m args below meth c A ls _ hx hb hnm hts hown hml hK hA hI hN
      (fun {_ _ _ _ u} hd hp hP hD hS => W.vret hx hb hr (fun t ht hW => ⟨⟨u, rfl, hp, by rw [ht]; exact hP, va_K.moved hW.alike hK, hD⟩, hS.F ht⟩) hS.2.2 hd hlocks) hP hD va_S.rf hl)
end XN
theorem xne {x k : Int32} {z : Int} (h : ¬ x = k) (e : k.toInt = z) : x.toInt ≠ z := fun q => h (Int32.toInt_inj.mp (q.trans e.symm))
def xup2 (c : Nat → Nat → Int32) (k : Nat) (z : Nat → Int32) : Nat → Nat → Int32 := fun j => if j = k then z else c j
theorem x15 {P : Nat → Prop} (h0 : P 0) (h1 : P 1) (h2 : P 2) (h3 : P 3) (h4 : P 4) (h5 : P 5) (h6 : P 6) (h7 : P 7) (h8 : P 8) (h9 : P 9) (h10 : P 10) (h11 : P 11) (h12 : P 12) (h13 : P 13) (h14 : P 14) : ∀ k, k < 15 → P k := fun k hk => match k, hk with
  | 0, _ => h0
  | 1, _ => h1
  | 2, _ => h2
  | 3, _ => h3
  | 4, _ => h4
  | 5, _ => h5
  | 6, _ => h6
  | 7, _ => h7
  | 8, _ => h8
  | 9, _ => h9
  | 10, _ => h10
  | 11, _ => h11
  | 12, _ => h12
  | 13, _ => h13
  | 14, _ => h14
  | k + 15, hk => absurd hk (by omega)
theorem xlt15 {i : Int32} {n : Nat} (h : vp_in i n) : i.toNatClampNeg < n := Nat.not_le.mp fun q => h (Or.inr q)
section XG
variable {p : Program} {l : Launch} {e : Env} {R : Room} {s : State} {m : MethodId} {args : Array Value} {below : List Frame} {meth : Method} {c : Code} {H : Heap} {locs : List Loc} {cells slots : Nat} {Q : State → Prop}
theorem xaald {cc : ByteArray} {pc : Nat} {ls : Array Slot} {rest : List Value} {D : va_G} {cl : List vw_C} {a : Nat} {tys : List (ClassId × FieldType)} {ws : va_W} (hexec : p.tables.exec = Jvm.exec) (hb : c.code = cc) (hK : va_K D cl tys s) (hP : va_P D cl ws H) (q0 t0 : Nat) {cA : ClassId} {n : Nat} {f : Nat → Nat} {ty : FieldType} (ha : ws[q0]? = some (a, .inl (cA, n, .inr (.inr (.inr (.inr (fun j => some (f j)))))))) (ht : tys[t0]? = some (cA, .array ty)) {i : Int32} (hin : vp_in i n) (hdg : decode cc pc = .ok (.aaload, 1))
    (kk : W p l e R s m args below meth c H locs cells slots Q (F0 m (pc + 1) ls (.ref (f i.toNatClampNeg) :: rest))) : W p l e R s m args below meth c H locs cells slots Q (F0 m pc ls (.int i :: .ref a :: rest)) := by
  have hlt : i.toNatClampNeg < n := Nat.not_le.mp fun q => hin (Or.inr q)
  exact W.aald (v := .ref (f i.toNatClampNeg)) (ty := .array ty) hexec hb (hP q0 _ ha) ((hK.2 t0 _ ht).1 n (fun j => va_rf (some (f j)))) rfl (fun q => by cases q) (by show ¬ (i < 0 ∨ (arrV _ _ _).slots.size ≤ _); rw [arrV_size]; exact hin) (by show (arrV _ _ _).slots[_]? = _; rw [arrV_read _ _ hlt]; rfl) rfl rfl hdg kk
end XG
