/-! worlds cut by a mask: the callee's cells are taken out of a long list in their order, and put back at their places -/
def xsel : List Bool → va_W → va_W
  | true :: m, x :: l => x :: xsel m l
  | false :: m, _ :: l => xsel m l
  | _, _ => []
def xmrg : List Bool → va_W → va_W → va_W
  | true :: m, x :: a, b => x :: xmrg m a b
  | false :: m, a, y :: b => y :: xmrg m a b
  | _, _, _ => []
theorem xP_iff {D : va_G} {cl : List vw_C} {ws : va_W} {H : Heap} : va_P D cl ws H ↔ ∀ q ∈ ws, va_at D cl q H := by
  constructor
  · intro h q hq
    obtain ⟨k, hk⟩ := List.getElem?_of_mem hq
    exact h k q hk
  · intro h k q hk
    exact h q (List.mem_of_getElem? hk)
theorem xD_iff {A : Nat → Prop} {ws : va_W} : va_D A ws ↔ (ws.map Prod.fst).Nodup ∧ ∀ q ∈ ws, A q.1 := by
  constructor
  · intro h
    refine ⟨?_, fun q hq => ?_⟩
    · rw [List.nodup_iff_pairwise_ne, List.pairwise_iff_getElem]
      intro i j hi hj hij e
      rw [List.getElem_map, List.getElem_map] at e
      have hi' : i < ws.length := by simpa using hi
      have hj' : j < ws.length := by simpa using hj
      have := h.1 i j ws[i] ws[j] (List.getElem?_eq_getElem hi') (List.getElem?_eq_getElem hj') e
      omega
    · obtain ⟨k, hk⟩ := List.getElem?_of_mem hq
      exact h.2 k q hk
  · intro h
    refine ⟨fun i j p q hp hq e => ?_, fun k q hk => h.2 q (List.mem_of_getElem? hk)⟩
    have hp1 : (ws.map Prod.fst)[i]? = some p.1 := by rw [List.getElem?_map, hp]; rfl
    have hq1 : (ws.map Prod.fst)[j]? = some p.1 := by rw [List.getElem?_map, hq, e]; rfl
    exact (List.getElem?_inj (List.getElem?_eq_some_iff.mp hp1).1 h.1).mp (hp1.trans hq1.symm)
theorem xsel_mem {x : Nat × va_E} : ∀ {m : List Bool} {l : va_W}, x ∈ xsel m l → x ∈ l
  | [], _, h => by simp [xsel] at h
  | true :: m, [], h => by simp [xsel] at h
  | false :: m, [], h => by simp [xsel] at h
  | true :: m, y :: l, h => by
    rcases List.mem_cons.mp h with e | e
    · exact e ▸ List.mem_cons_self
    · exact List.mem_cons_of_mem _ (xsel_mem e)
  | false :: m, y :: l, h => List.mem_cons_of_mem _ (xsel_mem (m := m) h)
theorem xmrg_mem {x : Nat × va_E} : ∀ {m : List Bool} {a b : va_W}, x ∈ xmrg m a b → x ∈ a ∨ x ∈ b
  | [], _, _, h => by simp [xmrg] at h
  | true :: m, [], b, h => by simp [xmrg] at h
  | true :: m, y :: a, b, h => by
    rcases List.mem_cons.mp h with e | e
    · exact Or.inl (e ▸ List.mem_cons_self)
    · exact (xmrg_mem e).imp (List.mem_cons_of_mem _) id
  | false :: m, a, [], h => by simp [xmrg] at h
  | false :: m, a, y :: b, h => by
    rcases List.mem_cons.mp h with e | e
    · exact Or.inr (e ▸ List.mem_cons_self)
    · exact (xmrg_mem e).imp id (List.mem_cons_of_mem _)
theorem xnd_mid {x : Nat × va_E} {a b : va_W} : ((a ++ x :: b).map Prod.fst).Nodup ↔ ((x :: (a ++ b)).map Prod.fst).Nodup := (List.perm_middle.map Prod.fst).nodup_iff
theorem xnd_cons {x : Nat × va_E} {l : va_W} : ((x :: l).map Prod.fst).Nodup ↔ (∀ y ∈ l, y.1 ≠ x.1) ∧ (l.map Prod.fst).Nodup := by
  rw [List.map_cons, List.nodup_cons]
  refine and_congr_left fun _ => ⟨fun h y hy e => h (e ▸ List.mem_map_of_mem hy), fun h hx => ?_⟩
  obtain ⟨y, hy, e⟩ := List.mem_map.mp hx
  exact h y hy e
theorem xsel_nd : ∀ {m : List Bool} {l : va_W}, (l.map Prod.fst).Nodup → ((xsel m l ++ xsel (m.map not) l).map Prod.fst).Nodup
  | [], _, _ => by simp [xsel]
  | true :: m, [], _ => by simp [xsel]
  | false :: m, [], _ => by simp [xsel]
  | true :: m, y :: l, h => by
    have h1 := xnd_cons.mp h
    refine xnd_cons.mpr ⟨fun z hz => ?_, xsel_nd h1.2⟩
    rcases List.mem_append.mp hz with e | e
    · exact h1.1 z (xsel_mem e)
    · exact h1.1 z (xsel_mem e)
  | false :: m, y :: l, h => by
    have h1 := xnd_cons.mp h
    refine xnd_mid.mpr (xnd_cons.mpr ⟨fun z hz => ?_, xsel_nd h1.2⟩)
    rcases List.mem_append.mp hz with e | e
    · exact h1.1 z (xsel_mem e)
    · exact h1.1 z (xsel_mem e)
theorem xmrg_nd : ∀ {m : List Bool} {a b : va_W}, ((a ++ b).map Prod.fst).Nodup → ((xmrg m a b).map Prod.fst).Nodup
  | [], _, _, _ => by simp [xmrg]
  | true :: m, [], b, _ => by simp [xmrg]
  | true :: m, y :: a, b, h => by
    have h1 := xnd_cons.mp h
    refine xnd_cons.mpr ⟨fun z hz => ?_, xmrg_nd h1.2⟩
    rcases xmrg_mem hz with e | e
    · exact h1.1 z (List.mem_append_left _ e)
    · exact h1.1 z (List.mem_append_right _ e)
  | false :: m, a, [], _ => by simp [xmrg]
  | false :: m, a, y :: b, h => by
    have h1 := xnd_cons.mp (xnd_mid.mp h)
    refine xnd_cons.mpr ⟨fun z hz => ?_, xmrg_nd h1.2⟩
    rcases xmrg_mem hz with e | e
    · exact h1.1 z (List.mem_append_left _ e)
    · exact h1.1 z (List.mem_append_right _ e)
theorem xfm {α β : Type} {f : α → Option β} : ∀ {is : List α} {w : List β}, is.map f = w.map some → is.filterMap f = w
  | [], [], _ => rfl
  | [], _ :: _, h => by simp at h
  | _ :: _, [], h => by simp at h
  | i :: is, x :: w, h => by
    rw [List.map_cons, List.map_cons, List.cons.injEq] at h
    rw [List.filterMap_cons, h.1]
    exact congrArg (x :: ·) (xfm h.2)
theorem xrg {α : Type} (a b : List α) : (List.range a.length).map (fun i => (a ++ b)[i]?) = a.map some := by
  apply List.ext_getElem?
  intro k
  rw [List.getElem?_map, List.getElem?_map]
  by_cases h : k < a.length
  · rw [List.getElem?_range h, List.getElem?_eq_getElem h]
    show some ((a ++ b)[k]?) = some (some a[k])
    rw [List.getElem?_append_left h, List.getElem?_eq_getElem h]
  · rw [List.getElem?_eq_none (by simpa using h), List.getElem?_eq_none (by omega)]
    rfl
theorem xrg2 {α : Type} (a b : List α) : ((List.range b.length).map (fun i => a.length + i)).map (fun i => (a ++ b)[i]?) = b.map some := by
  apply List.ext_getElem?
  intro k
  rw [List.getElem?_map, List.getElem?_map, List.getElem?_map]
  by_cases h : k < b.length
  · rw [List.getElem?_range h, List.getElem?_eq_getElem h]
    show some ((a ++ b)[a.length + k]?) = some (some b[k])
    rw [List.getElem?_append_right (by omega), show a.length + k - a.length = k by omega, List.getElem?_eq_getElem h]
  · rw [List.getElem?_eq_none (by simpa using h), List.getElem?_eq_none (by omega)]
    rfl
theorem xvnd : ∀ {l : List Nat}, l.Nodup → va_nd l = true
  | [], _ => rfl
  | a :: l, h => by
    have h1 := List.nodup_cons.mp h
    unfold va_nd
    rw [xvnd h1.2]
    simp [h1.1]
theorem xrnd (n k : Nat) : ((List.range n).map (fun i => k + i)).Nodup := by
  rw [List.nodup_iff_pairwise_ne, List.pairwise_map]
  have h := List.nodup_range (n := n)
  rw [List.nodup_iff_pairwise_ne] at h
  exact h.imp (fun hne e => hne (by omega))
/-- behind a call: what came back stands at the callee's places again -/
theorem xback {A : Nat → Prop} {D : va_G} {cl : List vw_C} {ws wc w1 : va_W} {H H1 : Heap} (m : List Bool) (isP isQ : List Nat) (hP : va_P D cl ws H) (hD : va_D A ws) (hp : isP.map (fun i => (xsel m ws)[i]?) = wc.map some) (hn : va_nd isP = true) (hnq : va_nd isQ = true)
    (hk : ∀ q : Nat, q < H.size → ¬ va_A wc H.size q → H1[q]? = H[q]?) (hF : ∀ q, va_A wc H.size q → A q) (hP1 : va_P D cl w1 H1) (hD1 : va_D (va_A wc H.size) w1) (hq : ∀ i ∈ isQ, i < w1.length) :
    va_P D cl (xmrg m (isQ.filterMap (fun i => w1[i]?)) (xsel (m.map not) ws)) H1 ∧ va_D A (xmrg m (isQ.filterMap (fun i => w1[i]?)) (xsel (m.map not) ws)) := by
  have hDc : va_D A (xsel m ws ++ xsel (m.map not) ws) := xD_iff.mpr ⟨xsel_nd (xD_iff.mp hD).1, fun q h => (List.mem_append.mp h).elim (fun h => (xD_iff.mp hD).2 q (xsel_mem h)) (fun h => (xD_iff.mp hD).2 q (xsel_mem h))⟩
  have hN := (xD_iff.mp hDc).1
  rw [List.map_append, List.nodup_append] at hN
  have hDx : va_D A (xsel m ws) := xD_iff.mpr ⟨hN.1, fun q h => (xD_iff.mp hD).2 q (xsel_mem h)⟩
  have hDw : va_D A wc := hDx.sub isP hn hp
  have hsub : ∀ q ∈ wc, q ∈ xsel m ws := fun q h => by
    rw [← xfm hp] at h
    obtain ⟨i, -, hi⟩ := List.mem_filterMap.mp h
    exact List.mem_of_getElem? hi
  have hP0 : va_P D cl (wc ++ xsel (m.map not) ws) H := xP_iff.mpr fun q h => (List.mem_append.mp h).elim (fun h => xP_iff.mp hP q (xsel_mem (hsub q h))) (fun h => xP_iff.mp hP q (xsel_mem h))
  have hD0 : va_D A (wc ++ xsel (m.map not) ws) := by
    refine xD_iff.mpr ⟨?_, fun q h => (List.mem_append.mp h).elim (fun h => (xD_iff.mp hDw).2 q h) (fun h => (xD_iff.mp hD).2 q (xsel_mem h))⟩
    rw [List.map_append, List.nodup_append]
    refine ⟨(xD_iff.mp hDw).1, hN.2.1, fun a ha b hb => hN.2.2 a ?_ b hb⟩
    obtain ⟨q, hq, e⟩ := List.mem_map.mp ha
    exact e ▸ List.mem_map_of_mem (hsub q hq)
  obtain ⟨hP2, hD2⟩ := va_join (wr := xsel (m.map not) ws) (w1 := w1) hP0 hD0 (List.range wc.length) ((List.range (xsel (m.map not) ws).length).map (fun i => wc.length + i)) (xrg _ _) (xrg2 _ _) (xvnd (xrnd _ _)) (fun i hi hj => by
    obtain ⟨k, -, e⟩ := List.mem_map.mp hi
    have := List.mem_range.mp hj
    omega) hk hF hP1 hD1
  have hw : ∀ q ∈ isQ.filterMap (fun i => w1[i]?), q ∈ w1 := fun q h => by
    obtain ⟨i, -, hi⟩ := List.mem_filterMap.mp h
    exact List.mem_of_getElem? hi
  refine ⟨xP_iff.mpr fun q h => ?_, xD_iff.mpr ⟨xmrg_nd ?_, fun q h => ?_⟩⟩
  · rcases xmrg_mem h with e | e
    · exact xP_iff.mp hP2 q (List.mem_append_right _ (hw q e))
    · exact xP_iff.mp hP2 q (List.mem_append_left _ e)
  · have h2 := (xD_iff.mp hD2).1
    rw [List.map_append, List.nodup_append] at h2
    have hQ : isQ.map (fun i => w1[i]?) = (isQ.filterMap (fun i => w1[i]?)).map some := by
      have : ∀ l : List Nat, (∀ i ∈ l, i < w1.length) → l.map (fun i => w1[i]?) = (l.filterMap (fun i => w1[i]?)).map some := by
        intro l
        induction l with
        | nil => intro _; rfl
        | cons i l ih =>
          intro h
          rw [List.map_cons, List.filterMap_cons, List.getElem?_eq_getElem (h i List.mem_cons_self)]
          exact congrArg _ (ih fun j hj => h j (List.mem_cons_of_mem _ hj))
      exact this isQ hq
    have hDq : va_D A (isQ.filterMap (fun i => w1[i]?)) := (xD_iff.mpr ⟨h2.2.1, fun q h => (xD_iff.mp hD2).2 q (List.mem_append_right _ h)⟩ : va_D A w1).sub isQ hnq hQ
    rw [List.map_append, List.nodup_append]
    refine ⟨(xD_iff.mp hDq).1, h2.1, fun a ha b hb e => h2.2.2 b hb a ?_ e.symm⟩
    obtain ⟨q, hq, e⟩ := List.mem_map.mp ha
    exact e ▸ List.mem_map_of_mem (hw q hq)
  · rcases xmrg_mem h with e | e
    · exact (xD_iff.mp hD2).2 q (List.mem_append_right _ (hw q e))
    · exact (xD_iff.mp hD2).2 q (List.mem_append_left _ e)
theorem xcut {A : Nat → Prop} {D : va_G} {cl : List vw_C} {ws wc : va_W} {H H0 : Heap} {locs : List Loc} (m : List Bool) (isP : List Nat) (hP : va_P D cl ws H) (hD : va_D A ws) (hS : va_S A H0 H locs) (hA : ∀ q, H0.size ≤ q → A q) (hp : isP.map (fun i => (xsel m ws)[i]?) = wc.map some) (hn : va_nd isP = true) : va_P D cl wc H ∧ va_D A wc ∧ ∀ q, va_A wc H.size q → A q := by
  have hDx : va_D A (xsel m ws) := by
    have h := xsel_nd (m := m) (xD_iff.mp hD).1
    rw [List.map_append, List.nodup_append] at h
    exact xD_iff.mpr ⟨h.1, fun q h => (xD_iff.mp hD).2 q (xsel_mem h)⟩
  have hPx : va_P D cl (xsel m ws) H := xP_iff.mpr fun q h => xP_iff.mp hP q (xsel_mem h)
  exact ⟨hPx.sub isP (xfm hp), hDx.sub isP hn hp, va_free hDx hS hA isP hp⟩
section XM
variable {p : Program} {l : Launch} {e : Env} {R : Room} {s : State} {m : MethodId} {args : Array Value} {below : List Frame} {meth : Method} {c : Code} {H : Heap} {locs : List Loc} {cells slots : Nat} {Q : State → Prop}
variable {pc : Nat} {ls : Array Slot} {rest st0 : List Value} {a : Array Value} {A : Nat → Prop} {mc ms : Nat} {E : xE} {ws wc : va_W}
theorem xmi {S : Type} {post : Int32 → S → Prop} {wn : S → va_W} (mk : List Bool) (isP isQ : List Nat) (hP : va_P E.1 vwCl ws H) (hD : va_D A ws) (hS : va_S A s.heap H locs) (hA : ∀ q, s.heap.size ≤ q → A q) (hp : isP.map (fun i => (xsel mk ws)[i]?) = wc.map some) (hn : va_nd isP = true) (hnq : va_nd isQ = true) (n : Nat) (hqn : ∀ i ∈ isQ, i < n) (hq : ∀ u, (wn u).length = n)
    (hr : va_P E.1 vwCl wc H → va_D A wc → (∀ q, va_A wc H.size q → A q) → va_Run p l e R s m args below meth c H locs cells slots mc ms (F0 m pc ls st0) rest (xQi E post wn (va_A wc H.size) a) (va_A wc H.size))
    (kk : ∀ (r : Int32) (u : S) (H1 : Heap) (locs1 : List Loc), post r u → va_P E.1 vwCl (xmrg mk (isQ.filterMap (fun i => (wn u)[i]?)) (xsel (mk.map not) ws)) H1 → va_D A (xmrg mk (isQ.filterMap (fun i => (wn u)[i]?)) (xsel (mk.map not) ws)) → va_S A s.heap H1 locs1 → W p l e R s m args below meth c H1 locs1 (cells + mc) (slots + ms) Q (F0 m (pc + 3) ls (.int r :: rest))) : W p l e R s m args below meth c H locs cells slots Q (F0 m pc ls st0) := by
  obtain ⟨hPc, hDc, hF⟩ := xcut mk isP hP hD hS hA hp hn
  refine va_calli (hr hPc hDc hF) hS (fun q _ h => hF q h) hF (fun r u t H1 locs1 ht hvm hw hB hz hk hS1 => ?_)
  obtain ⟨hP1, hK1, hD1⟩ := hB
  rw [ht] at hP1
  obtain ⟨hP2, hD2⟩ := xback mk isP isQ hP hD hp hn hnq hk hF hP1 hD1 (fun i h => by rw [hq u]; exact hqn i h)
  exact kk r u H1 locs1 hw hP2 hD2 hS1
theorem xml {S : Type} {post : Int64 → S → Prop} {wn : S → va_W} (mk : List Bool) (isP isQ : List Nat) (hP : va_P E.1 vwCl ws H) (hD : va_D A ws) (hS : va_S A s.heap H locs) (hA : ∀ q, s.heap.size ≤ q → A q) (hp : isP.map (fun i => (xsel mk ws)[i]?) = wc.map some) (hn : va_nd isP = true) (hnq : va_nd isQ = true) (n : Nat) (hqn : ∀ i ∈ isQ, i < n) (hq : ∀ u, (wn u).length = n)
    (hr : va_P E.1 vwCl wc H → va_D A wc → (∀ q, va_A wc H.size q → A q) → va_Run p l e R s m args below meth c H locs cells slots mc ms (F0 m pc ls st0) rest (xQl E post wn (va_A wc H.size) a) (va_A wc H.size))
    (kk : ∀ (r : Int64) (u : S) (H1 : Heap) (locs1 : List Loc), post r u → va_P E.1 vwCl (xmrg mk (isQ.filterMap (fun i => (wn u)[i]?)) (xsel (mk.map not) ws)) H1 → va_D A (xmrg mk (isQ.filterMap (fun i => (wn u)[i]?)) (xsel (mk.map not) ws)) → va_S A s.heap H1 locs1 → W p l e R s m args below meth c H1 locs1 (cells + mc) (slots + ms) Q (F0 m (pc + 3) ls (.long r :: rest))) : W p l e R s m args below meth c H locs cells slots Q (F0 m pc ls st0) := by
  obtain ⟨hPc, hDc, hF⟩ := xcut mk isP hP hD hS hA hp hn
  refine va_calll (hr hPc hDc hF) hS (fun q _ h => hF q h) hF (fun r u t H1 locs1 ht hvm hw hB hz hk hS1 => ?_)
  obtain ⟨hP1, hK1, hD1⟩ := hB
  rw [ht] at hP1
  obtain ⟨hP2, hD2⟩ := xback mk isP isQ hP hD hp hn hnq hk hF hP1 hD1 (fun i h => by rw [hq u]; exact hqn i h)
  exact kk r u H1 locs1 hw hP2 hD2 hS1
theorem xmv {S : Type} {post : S → Prop} {wn : S → va_W} (mk : List Bool) (isP isQ : List Nat) (hP : va_P E.1 vwCl ws H) (hD : va_D A ws) (hS : va_S A s.heap H locs) (hA : ∀ q, s.heap.size ≤ q → A q) (hp : isP.map (fun i => (xsel mk ws)[i]?) = wc.map some) (hn : va_nd isP = true) (hnq : va_nd isQ = true) (n : Nat) (hqn : ∀ i ∈ isQ, i < n) (hq : ∀ u, (wn u).length = n)
    (hr : va_P E.1 vwCl wc H → va_D A wc → (∀ q, va_A wc H.size q → A q) → va_Run p l e R s m args below meth c H locs cells slots mc ms (F0 m pc ls st0) rest (xQv E post wn (va_A wc H.size) a) (va_A wc H.size))
    (kk : ∀ (u : S) (H1 : Heap) (locs1 : List Loc), post u → va_P E.1 vwCl (xmrg mk (isQ.filterMap (fun i => (wn u)[i]?)) (xsel (mk.map not) ws)) H1 → va_D A (xmrg mk (isQ.filterMap (fun i => (wn u)[i]?)) (xsel (mk.map not) ws)) → va_S A s.heap H1 locs1 → W p l e R s m args below meth c H1 locs1 (cells + mc) (slots + ms) Q (F0 m (pc + 3) ls rest)) : W p l e R s m args below meth c H locs cells slots Q (F0 m pc ls st0) := by
  obtain ⟨hPc, hDc, hF⟩ := xcut mk isP hP hD hS hA hp hn
  refine va_callv (hr hPc hDc hF) hS (fun q _ h => hF q h) hF (fun u t H1 locs1 ht hvm hw hB hz hk hS1 => ?_)
  obtain ⟨hP1, hK1, hD1⟩ := hB
  rw [ht] at hP1
  obtain ⟨hP2, hD2⟩ := xback mk isP isQ hP hD hp hn hnq hk hF hP1 hD1 (fun i h => by rw [hq u]; exact hqn i h)
  exact kk u H1 locs1 hw hP2 hD2 hS1
end XM
theorem nM_0 {s : State} (h : xN s) : va_Nw (.methodLinkNest R_Packer 78 y_P_fixedLength "PieceRow") s := h.1 (R_Packer, 78, y_P_fixedLength, "PieceRow") (List.mem_of_getElem? (i := 0) rfl)
theorem nM_1 {s : State} (h : xN s) : va_Nw (.methodLinkNest R_Unpacker 49 y_P_fixedLength "PieceRow") s := h.1 (R_Unpacker, 49, y_P_fixedLength, "PieceRow") (List.mem_of_getElem? (i := 1) rfl)
theorem nM_2 {s : State} (h : xN s) : va_Nw (.methodLinkNest R_Packer 175 y_P_lengthSymbol "PieceRow") s := h.1 (R_Packer, 175, y_P_lengthSymbol, "PieceRow") (List.mem_of_getElem? (i := 2) rfl)
theorem nM_3 {s : State} (h : xN s) : va_Nw (.methodLinkNest R_Packer 179 y_P_distanceSymbol "PieceRow") s := h.1 (R_Packer, 179, y_P_distanceSymbol, "PieceRow") (List.mem_of_getElem? (i := 3) rfl)
theorem nM_4 {s : State} (h : xN s) : va_Nw (.methodLinkNest R_Packer 182 y_P_lengthExtra "PieceRow") s := h.1 (R_Packer, 182, y_P_lengthExtra, "PieceRow") (List.mem_of_getElem? (i := 4) rfl)
theorem nM_5 {s : State} (h : xN s) : va_Nw (.methodLinkNest R_Packer 185 y_P_distanceExtra "PieceRow") s := h.1 (R_Packer, 185, y_P_distanceExtra, "PieceRow") (List.mem_of_getElem? (i := 5) rfl)
theorem nM_6 {s : State} (h : xN s) : va_Nw (.methodLinkNest R_Header 109 y_P_repeatBase "PieceRow") s := h.1 (R_Header, 109, y_P_repeatBase, "PieceRow") (List.mem_of_getElem? (i := 6) rfl)
theorem nM_7 {s : State} (h : xN s) : va_Nw (.methodLinkNest R_Header 68 y_P_repeatExtra "PieceRow") s := h.1 (R_Header, 68, y_P_repeatExtra, "PieceRow") (List.mem_of_getElem? (i := 7) rfl)
theorem nM_8 {s : State} (h : xN s) : va_Nw (.methodLinkNest R_Packer 195 y_P_lengthBase "PieceRow") s := h.1 (R_Packer, 195, y_P_lengthBase, "PieceRow") (List.mem_of_getElem? (i := 8) rfl)
theorem nM_9 {s : State} (h : xN s) : va_Nw (.methodLinkNest R_Packer 198 y_P_distanceBase "PieceRow") s := h.1 (R_Packer, 198, y_P_distanceBase, "PieceRow") (List.mem_of_getElem? (i := 9) rfl)
theorem nM_10 {s : State} (h : xN s) : va_Nw (.methodLinkNest R_Packer 119 y_P_checkOf "PieceRow") s := h.1 (R_Packer, 119, y_P_checkOf, "PieceRow") (List.mem_of_getElem? (i := 10) rfl)
theorem nM_11 {s : State} (h : xN s) : va_Nw (.methodLinkNest R_Unpacker 139 y_P_lengthExtra "PieceRow") s := h.1 (R_Unpacker, 139, y_P_lengthExtra, "PieceRow") (List.mem_of_getElem? (i := 11) rfl)
theorem nM_12 {s : State} (h : xN s) : va_Nw (.methodLinkNest R_Unpacker 142 y_P_distanceExtra "PieceRow") s := h.1 (R_Unpacker, 142, y_P_distanceExtra, "PieceRow") (List.mem_of_getElem? (i := 12) rfl)
theorem nM_13 {s : State} (h : xN s) : va_Nw (.methodLinkNest R_Unpacker 145 y_P_lengthBase "PieceRow") s := h.1 (R_Unpacker, 145, y_P_lengthBase, "PieceRow") (List.mem_of_getElem? (i := 13) rfl)
theorem nM_14 {s : State} (h : xN s) : va_Nw (.methodLinkNest R_Unpacker 148 y_P_distanceBase "PieceRow") s := h.1 (R_Unpacker, 148, y_P_distanceBase, "PieceRow") (List.mem_of_getElem? (i := 14) rfl)
theorem nM_15 {s : State} (h : xN s) : va_Nw (.methodLinkNest R_Unpacker 129 y_P_repeatExtra "PieceRow") s := h.1 (R_Unpacker, 129, y_P_repeatExtra, "PieceRow") (List.mem_of_getElem? (i := 15) rfl)
theorem nM_16 {s : State} (h : xN s) : va_Nw (.methodLinkNest R_Unpacker 132 y_P_repeatBase "PieceRow") s := h.1 (R_Unpacker, 132, y_P_repeatBase, "PieceRow") (List.mem_of_getElem? (i := 16) rfl)
theorem nM_17 {s : State} (h : xN s) : va_Nw (.methodLinkNest R_Unpacker 107 y_P_checkOf "PieceRow") s := h.1 (R_Unpacker, 107, y_P_checkOf, "PieceRow") (List.mem_of_getElem? (i := 17) rfl)
theorem nM_18 {s : State} (h : xN s) : va_Nw (.methodLinkNest R_M 87 y_Tree_init "PieceRowModel") s := h.1 (R_M, 87, y_Tree_init, "PieceRowModel") (List.mem_of_getElem? (i := 18) rfl)
theorem nF_0 {s : State} (h : xN s) : va_Nw (.fieldLinkNest R_Packer 75 "PieceRow$Code" "lengths" "[I" "PieceRow") s := h.2.1 (R_Packer, 75, "PieceRow$Code", "lengths", "[I", "PieceRow") (List.mem_of_getElem? (i := 0) rfl)
theorem nF_1 {s : State} (h : xN s) : va_Nw (.fieldLinkNest R_Header 41 "PieceRow$Code" "lengths" "[I" "PieceRow") s := h.2.1 (R_Header, 41, "PieceRow$Code", "lengths", "[I", "PieceRow") (List.mem_of_getElem? (i := 1) rfl)
theorem nF_2 {s : State} (h : xN s) : va_Nw (.fieldLinkNest R_Header 53 "PieceRow" "LENGTH_ORDER" "[I" "PieceRow") s := h.2.1 (R_Header, 53, "PieceRow", "LENGTH_ORDER", "[I", "PieceRow") (List.mem_of_getElem? (i := 2) rfl)
theorem nF_3 {s : State} (h : xN s) : va_Nw (.fieldLinkNest R_Unpacker 118 "PieceRow" "LENGTH_ORDER" "[I" "PieceRow") s := h.2.1 (R_Unpacker, 118, "PieceRow", "LENGTH_ORDER", "[I", "PieceRow") (List.mem_of_getElem? (i := 3) rfl)
theorem nF_4 {s : State} (h : xN s) : va_Nw (.fieldLinkNest R_M 238 "PieceRowModel$Tree" "next" "[I" "PieceRowModel") s := h.2.1 (R_M, 238, "PieceRowModel$Tree", "next", "[I", "PieceRowModel") (List.mem_of_getElem? (i := 4) rfl)
