/-! CONSTRUCTORS: an array of arrays of ints, as the machine lays it: the outer array, then row by row right behind it. Own rows, over the machine's own text (Op.multianewarray), nothing of Shelf42 -/
def nw_ov (cA : ClassId) (N h i : Nat) : Cell := arrV cA N (fun j => va_rf (if j < i then some (h + 1 + j) else none))
def nw_iv (cI : ClassId) (M : Nat) : Cell := arrV cI M (fun _ => .int (Int32.ofInt 0))
def nw_lay (cA cI : ClassId) (N M h : Nat) (T : State) : Nat → State
  | 0 => T.pushCell (nw_ov cA N h 0)
  | i + 1 => ((nw_lay cA cI N M h T i).pushCell (nw_iv cI M)).setCell h (nw_ov cA N h (i + 1))
theorem nw_ov0 (cA : ClassId) (N h : Nat) : ({ cls := cA, slots := Array.replicate N .null, vm := .none } : Cell) = nw_ov cA N h 0 := by
  rw [arrV_new]
  refine congrArg (arrV cA N) (funext fun j => ?_)
  rw [if_neg (Nat.not_lt_zero j)]
  rfl
theorem nw_iv0 (cI : ClassId) (M : Nat) : ({ cls := cI, slots := Array.replicate M (defaultValue .int), vm := .none } : Cell) = nw_iv cI M := arrV_new cI M (defaultValue .int)
theorem nw_ovS (cA : ClassId) (N h i : Nat) : (nw_ov cA N h i).setSlot i (.ref (h + 1 + i)) = nw_ov cA N h (i + 1) := by
  unfold nw_ov
  rw [arrV_store]
  refine congrArg (arrV cA N) (funext fun j => ?_)
  unfold updV
  by_cases hj : j = i
  · rw [if_pos hj, if_pos (by omega), hj]
    rfl
  · rw [if_neg hj]
    show va_rf (if j < i then some (h + 1 + j) else none) = _
    by_cases h2 : j < i
    · rw [if_pos h2, if_pos (by omega)]
    · rw [if_neg h2, if_neg (by omega)]
theorem nw_ovN (cA : ClassId) (N h i : Nat) : (nw_ov cA N h i).slots.size = N := arrV_size _ _ _
theorem nw_ivN (cI : ClassId) (M : Nat) : (nw_iv cI M).slots.size = M := arrV_size _ _ _
theorem nw_lay_f {cA cI : ClassId} {N M h : Nat} {T : State} (hz : T.heap.size = h) : ∀ i : Nat,
    (nw_lay cA cI N M h T i).heap.size = h + 1 + i ∧ (nw_lay cA cI N M h T i).heap[h]? = some (nw_ov cA N h i) ∧ (∀ j : Nat, j < i → (nw_lay cA cI N M h T i).heap[h + 1 + j]? = some (nw_iv cI M)) ∧ (∀ q : Nat, q < h → (nw_lay cA cI N M h T i).heap[q]? = T.heap[q]?) ∧ (nw_lay cA cI N M h T i).vm = T.vm
  | 0 => by
    subst hz
    exact ⟨size_pushCell _ _, State.heap_pushCell_size _ _, fun j hj => absurd hj (Nat.not_lt_zero j), fun q hq => State.heap_pushCell_of_lt _ _ hq, rfl⟩
  | i + 1 => by
    obtain ⟨f1, f2, f3, f4, f5⟩ := nw_lay_f (cA := cA) (cI := cI) (N := N) (M := M) hz i
    have g : ∀ q : Nat, q ≠ h → (nw_lay cA cI N M h T (i + 1)).heap[q]? = ((nw_lay cA cI N M h T i).pushCell (nw_iv cI M)).heap[q]? := fun q hq => State.heap_setCell_other (Ne.symm hq)
    have k : ∀ q : Nat, q < h + 1 + i → ((nw_lay cA cI N M h T i).pushCell (nw_iv cI M)).heap[q]? = (nw_lay cA cI N M h T i).heap[q]? := fun q hq => State.heap_pushCell_of_lt _ _ (by rw [f1]; exact hq)
    refine ⟨?_, ?_, fun j hj => ?_, fun q hq => ?_, f5⟩
    · show (((nw_lay cA cI N M h T i).pushCell (nw_iv cI M)).setCell h (nw_ov cA N h (i + 1))).heap.size = _
      rw [size_setCell, size_pushCell, f1]
      omega
    · exact State.heap_setCell_self ((k h (by omega)).trans f2)
    · rw [g _ (by omega)]
      by_cases h2 : j < i
      · rw [k _ (by omega)]
        exact f3 j h2
      · have e9 : h + 1 + j = (nw_lay cA cI N M h T i).heap.size := by rw [f1]; omega
        rw [e9]
        exact State.heap_pushCell_size _ _
    · rw [g _ (by omega), k _ (by omega)]
      exact f4 q hq
theorem nw_lay_t {cA cI : ClassId} {N M h : Nat} {T : State} (g : JFrame) : ∀ i : Nat, nw_lay cA cI N M h (T.setTop g) i = (nw_lay cA cI N M h T i).setTop g
  | 0 => rfl
  | i + 1 => by
    show ((nw_lay cA cI N M h (T.setTop g) i).pushCell (nw_iv cI M)).setCell h (nw_ov cA N h (i + 1)) = _
    rw [nw_lay_t g i]
    rfl
section NW2B
variable {p : Program} {l : Launch} {e : Env} {R : Room} {s : State} {m : MethodId} {args : Array Value} {below : List Frame} {meth : Method} {c : Code} {H : Heap} {locs : List Loc} {nc ns : Nat} {Q : State → Prop} {cA cI : ClassId} {N M h : Nat} {T : State}
theorem nw_lay_X (X : Stand p l e R s m args below meth c T locs nc ns) (hz : T.heap.size = h) : ∀ i : Nat, Stand p l e R s m args below meth c (nw_lay cA cI N M h T i) locs (nc + 1 + i) (ns + N + i * M)
  | 0 => by
    have X1 := X.pushed (nw_ov cA N h 0)
    rw [nw_ovN] at X1
    rw [Nat.zero_mul]
    exact X1
  | i + 1 => by
    obtain ⟨f1, f2, -⟩ := nw_lay_f (cA := cA) (cI := cI) (N := N) (M := M) hz i
    have X1 := (nw_lay_X X hz i).pushed (nw_iv cI M)
    rw [nw_ivN] at X1
    have hlt : h < (nw_lay cA cI N M h T i).heap.size := by rw [f1]; omega
    have X2 := X1.stored (a := h) ((State.heap_pushCell_of_lt _ _ hlt).trans f2) i (.ref (h + 1 + i))
    rw [nw_ovS] at X2
    have X3 := X2.dropFresh (fun x hx => by
      rw [List.mem_singleton.mp hx, ← hz]
      exact X.heapGrown)
    rw [show ns + N + (i + 1) * M = ns + N + i * M + M by rw [Nat.succ_mul]; omega]
    exact X3
theorem nw_mk1 {E : CtlPost} {d : Bool} {acts : List Action} {V : State} {kI : Class} {cc : ClassId} {k : Int32} {Q : Addr → Pre} (hI : V.vm.classes[cI]? = some kI) (hkI : kI.kind = .array cc .int) (hk : ¬ k < 0) (hM : k.toNatClampNeg = M) (h1 : ¬ M > e.platform.arrayLengthLimit) (h2 : ¬ M * componentBytes .int > e.platform.maxHeapBytes) (h3 : V.heap.size < e.platform.maxCells) (h4 : V.slotsUsed + M ≤ e.platform.maxSlots) (hq : ∀ acts' : List Action, Q V.heap.size d acts' (V.pushCell (nw_iv cI M))) : wp (multianewarray.make cI [k]) Q E e d acts V := by
  subst hM
  rw [multianewarray.make]
  simp only [wp_bind', W.ite, hk, if_false, wp_pure', W.theClass, hI, hkI, Option.some.injEq, exists_eq_left']
  refine W.newArray_of hI hkI h1 h2 h3 h4 rfl fun acts' => ?_
  rw [nw_iv0]
  exact hq acts'
theorem nw_mk2 {E : CtlPost} {d : Bool} {acts : List Action} {V : State} {kA kI : Class} {cc : ClassId} {n k : Int32} {Q : Addr → Pre} (hz : V.heap.size = h) (hA : V.vm.classes[cA]? = some kA) (hkA : kA.kind = .array cI (.array .int)) (hI : V.vm.classes[cI]? = some kI) (hkI : kI.kind = .array cc .int) (hn : ¬ n < 0) (hk : ¬ k < 0) (hN : n.toNatClampNeg = N) (hM : k.toNatClampNeg = M) (h1 : ¬ N > e.platform.arrayLengthLimit) (h2 : ¬ N * componentBytes (.array .int) > e.platform.maxHeapBytes) (h3 : ¬ M > e.platform.arrayLengthLimit) (h4 : ¬ M * componentBytes .int > e.platform.maxHeapBytes) (r1 : h + (1 + N) ≤ e.platform.maxCells) (r2 : V.slotsUsed + N ≤ e.platform.maxSlots) (r3 : ∀ i : Nat, i < N → (nw_lay cA cI N M h V i).slotsUsed + M ≤ e.platform.maxSlots)
    (hq : ∀ (d' : Bool) (acts' : List Action), Q h d' acts' (nw_lay cA cI N M h V N)) : wp (multianewarray.make cA [n, k]) Q E e d acts V := by
  have hf : [k].find? (· < 0) = none := by simp [hk]
  rw [multianewarray.make]
  simp only [wp_bind', W.ite, hn, if_false, wp_pure', W.theClass, hA, hkA, Option.some.injEq, exists_eq_left', hN]
  refine W.newArray_of hA hkA h1 h2 (by rw [hz]; omega) r2 rfl fun acts' => ?_
  rw [nw_ov0 cA N h, hz]
  simp only [hf]
  rw [ite_self, wp_bind', Std.Legacy.Range.forIn_eq_forIn_range']
  have hs : ([:N] : Std.Legacy.Range).size = N := by simp [Std.Legacy.Range.size]
  rw [hs]
  refine wp_forIn_inv (fun rest U => ∃ i : Nat, i + rest.length = N ∧ rest = List.range' i rest.length ∧ U = nw_lay cA cI N M h V i) _ _ ⟨0, by simp, by simp, rfl⟩ ?_ ?_
  · rintro x rest U d' acts' Q' ⟨i, e1, e2, rfl⟩ hnext
    rw [List.length_cons, List.range'_succ] at e2
    obtain ⟨rfl, e3⟩ := List.cons.inj e2
    rw [List.length_cons] at e1
    obtain ⟨f1, f2, -, -, f5⟩ := nw_lay_f (cA := cA) (cI := cI) (N := N) (M := M) hz x
    simp only [wp_bind']
    refine nw_mk1 (M := M) (by rw [f5]; exact hI) hkI hk hM h3 h4 (by rw [f1]; omega) (r3 x (by omega)) fun acts2 => ?_
    simp only [wp_bind', W.writeLoc, wp_pure']
    have hlt : h < (nw_lay cA cI N M h V x).heap.size := by rw [f1]; omega
    refine ⟨nw_ov cA N h x, (State.heap_pushCell_of_lt _ _ hlt).trans f2, (by intro h9; cases h9), by rw [nw_ovN]; omega, ?_, hnext _ _ _ ⟨x + 1, by omega, e3, ?_⟩⟩
    · have hA9 : (nw_lay cA cI N M h V x).vm.classes[cA]? = some kA := by
        rw [f5]
        exact hA
      show State.fitsSlot _ cA .none x _ = true
      simp [State.fitsSlot, State.slotType?, hA9, hkA, fits]
    · rw [f1, nw_ovS]
      rfl
  · rintro U d' acts' ⟨i, e1, -, rfl⟩
    have e9 : i = N := by simpa using e1
    subst e9
    simp only [wp_pure']
    exact hq _ _
theorem nw_multi {own : String} {idx pc : Nat} {ls : Array Slot} {n k : Int32} {rest : List Value} {cb : ByteArray} (hexec : p.tables.exec = Jvm.exec) (hb : c.code = cb) (hown : s.vm.findClass own = some m.cls) (hcl : (Cond.classLink own idx "[[I").before args s = true) (hov : (Cond.arrayOver (.array .int)).before args s = true) (har : (Cond.arrayClass .int).before args s = true) (hd : decode cb pc = .ok (.multianewarray idx 2, 4)) (hn : ¬ n < 0) (hk : ¬ k < 0) (hN : n.toNatClampNeg = N) (hM : k.toNatClampNeg = M) (bN : N ≤ 27000) (bM : M ≤ 27000) (hz : H.size = h) (hc : nc + (1 + N) ≤ R.cells) (hs : ns + (N + N * M) ≤ R.slots)
    (kk : ∀ (H1 : Heap) (cA cI : ClassId), s.vm.findClass "[[I" = some cA → s.vm.findClass "[I" = some cI → H1.size = h + 1 + N → H1[h]? = some (nw_ov cA N h N) → (∀ j : Nat, j < N → H1[h + 1 + j]? = some (nw_iv cI M)) → (∀ q : Nat, q < h → H1[q]? = H[q]?) → W p l e R s m args below meth c H1 locs (nc + 1 + N) (ns + N + N * M) Q (F0 m (pc + 4) ls (.ref h :: rest))) : W p l e R s m args below meth c H locs nc ns Q (F0 m pc ls (.int k :: .int n :: rest)) := by
  intro T hT X
  subst hT; subst hb
  have hpl : e.platform.magicAccessors = ({} : Platform).magicAccessors := by rw [X.admits.platform]
  obtain ⟨cI, cA, kA, hfI, -, hA, hkA, hfA⟩ := arrayOverA_spec hov
  obtain ⟨cI', kI, cc, hfI', hI, hkI⟩ := Cond.arrayClass_spec har
  have e0 : cI' = cI := Option.some.inj (hfI'.symm.trans hfI)
  subst e0
  obtain ⟨c0, hfc0, hlk⟩ := Cond.classLink_spec hown hcl e.platform hpl
  have e1 : cA = c0 := Option.some.inj (hfA.symm.trans hfc0)
  subst e1
  obtain ⟨hgv, hwm, -⟩ := State.classEntry (e := e) X.warmed hlk
  generalize T.vm.noted m.cls idx (.cls cA) = vm1 at hgv hwm
  obtain ⟨kA1, hA1, eA⟩ := hwm.alike.2.2 _ _ hA
  obtain ⟨kI1, hI1, eI⟩ := hwm.alike.2.2 _ _ hI
  have X1 := X.noted hwm
  have hz1 : (T.setVm vm1).heap.size = h := hz
  obtain ⟨f1, f2, f3, f4, -⟩ := nw_lay_f (cA := cA) (cI := cI') (N := N) (M := M) hz1 N
  have XN := nw_lay_X (cA := cA) (cI := cI') (N := N) (M := M) X1 hz1 N
  obtain ⟨t, a1, b1⟩ := kk _ cA cI' hfA hfI f1 f2 f3 f4 _ rfl XN
  refine ⟨t, ?_, b1⟩
  have hlim : e.platform.arrayLengthLimit = _ := Launch.admits_arrayLengthLimit X.admits
  have hmax : e.platform.maxHeapBytes = _ := Launch.admits_maxHeapBytes X.admits
  obtain ⟨q1, q2⟩ := X1.roomAbove hc hs
  jvm_step X.here [hexec, hd]
  simp only [multianewarray.sem, wp_bind', W.resolveClassAt_links (State.method?_setTop (F0 m pc ls (.int k :: .int n :: rest)) X.here.top) hgv]
  rw [W.popN, if_neg (by decide)]
  refine ⟨F0 m pc ls (.int k :: .int n :: rest), State.topJava?_setTop' (s := T.setVm vm1) _ X.here.top, [.int n, .int k], rest, rfl, rfl, ?_⟩
  simp only [List.mapM_cons, List.mapM_nil, wp_bind', wp_pure']
  have eS : ((T.setTop (F0 m pc ls (.int k :: .int n :: rest))).setVm vm1).setTop { F0 m pc ls (.int k :: .int n :: rest) with stack := rest } = (T.setVm vm1).setTop (F0 m pc ls rest) := by
    show ((T.setVm vm1).setTop _).setTop _ = _
    rw [State.setTop_setTop]
  rw [eS]
  refine nw_mk2 (h := h) (N := N) (M := M) (kA := kA1) (kI := kI1) (cI := cI') (cc := cc) hz1 hA1 (by rw [eA]; exact hkA) hI1 (by rw [eI]; exact hkI) hn hk hN hM (by rw [hlim]; omega) (by rw [hmax]; show ¬ N * 4 > 536870912; omega) (by rw [hlim]; omega) (by rw [hmax]; show ¬ M * 4 > 536870912; omega) (by rw [hz1] at q1; exact q1) (by show (T.setVm vm1).slotsUsed + N ≤ _; omega) (fun i hi => ?_) (fun d' acts' => ?_)
  · rw [nw_lay_t]
    show (nw_lay cA cI' N M h (T.setVm vm1) i).slotsUsed + M ≤ _
    have hm : i * M + M ≤ N * M := by
      rw [← Nat.succ_mul]
      exact Nat.mul_le_mul_right M hi
    exact ((nw_lay_X (cA := cA) (cI := cI') (N := N) (M := M) X1 hz1 i).roomAbove (a := 0) (b := M) (by omega) (by omega)).2
  · rw [nw_lay_t]
    simp only [wp_bind', W.mark, W.pushRef, State.topJava?_setTop' _ XN.here.top, Option.some.injEq, exists_eq_left', State.setTop_setTop]
    intro acts
    simp [jvm, XN.here.top]
    exact a1
end NW2B
