/-! CONSTRUCTORS: arrays of arrays of ints -/
theorem nw_outer (c0 : ClassId) (N h0 : Nat) : ∀ i : Nat, Jvm.Free.Multi.outerC c0 N h0 i = { cls := c0, slots := (Jvm.Free.Multi.outerC c0 N h0 i).slots, vm := .none }
  | 0 => rfl
  | i + 1 => by
    have ih := nw_outer c0 N h0 i
    show (Jvm.Free.Multi.outerC c0 N h0 i).setSlot i (.ref (h0 + 1 + i)) = { cls := c0, slots := ((Jvm.Free.Multi.outerC c0 N h0 i).setSlot i (.ref (h0 + 1 + i))).slots, vm := .none }
    rw [ih]
    rfl
theorem nw_outer_e (c0 : ClassId) (N h0 : Nat) : Jvm.Free.Multi.outerC c0 N h0 N = arrV c0 N (fun j => .ref (h0 + 1 + j)) := by
  rw [nw_outer]
  unfold arrV
  have e : (Jvm.Free.Multi.outerC c0 N h0 N).slots = Array.ofFn (n := N) fun j => Value.ref (h0 + 1 + j.val) := by
    refine Array.ext_getElem? fun j => ?_
    by_cases hj : j < N
    · rw [Jvm.Free.Multi.outerC_slot c0 N h0 N j hj, if_pos hj]
      simp [hj]
    · rw [Array.getElem?_eq_none (by rw [(Jvm.Free.Multi.outerC_facts c0 N h0 N).2.2]; omega), Array.getElem?_eq_none (by simp; omega)]
  rw [e]
theorem nw_inner_e (c0 : ClassId) (M : Nat) : Jvm.Free.Multi.innerC c0 M (defaultValue .int) = arrV c0 M (fun _ => .int (Int32.ofInt 0)) := by
  unfold Jvm.Free.Multi.innerC arrV
  have e : Array.replicate M (defaultValue .int) = Array.ofFn (n := M) fun _ => Value.int (Int32.ofInt 0) := by
    refine Array.ext_getElem? fun j => ?_
    by_cases hj : j < M
    · simp [hj, defaultValue]
    · rw [Array.getElem?_eq_none (by simp; omega), Array.getElem?_eq_none (by simp; omega)]
  rw [e]
section NW3
variable {p : Program} {l : Launch} {e : Env} {R : Room} {s : State} {m : MethodId} {args : Array Value} {below : List Frame} {meth : Method} {c : Code} {G : mr_G} {own : String} {cc : ByteArray} {nL : Nat} {ret : Option FieldType} {nc ns h : Nat} {Q : State → Prop} {pc : Nat} {ls : List (Option mr_AV)} {st : List mr_AV} {w : mr_Wd}
theorem mrE_multi {kk N M idx : Nat} {n k : Int} (hh : mr_Hy p s m args meth c G own cc nL ret) (d : decode cc pc = .ok (.multianewarray idx 2, 4)) (hcl : Cond.classLink own idx "[[I" ∈ mr_ws) (hov : Cond.arrayOver (.array .int) ∈ lw_tbl) (hov2 : (Cond.arrayOver (.array .int)).before args s = true) (har : Cond.arrayClass .int ∈ mr_ws) (hn : n = (N : Int)) (hk : k = (M : Int)) (hN : N ≤ 27000) (hM : M ≤ 27000) (had : ∀ i : Nat, i ≤ N → mr_ad G kk i = h + i) (hcs : nc + (1 + N) ≤ R.cells ∧ ns + (N + N * M) ≤ R.slots)
    (kc : mr_E p l e R s m args below meth c G nL (nc + 1 + N) (ns + N + N * M) Q (h + 1 + N) (pc + 4) ls (vR kk 0 :: st) (mr_up w kk (eM N M (fun _ _ => 0)))) : mr_E p l e R s m args below meth c G nL nc ns Q h pc ls (vI k :: vI n :: st) w := by
  intro H locs lc hz hC hS hl
  obtain ⟨hx, hb, hml, hr, hlk, hown, hts, hK⟩ := id hh
  subst hn hk
  have eN : (Int32.ofInt (N : Int)).toNatClampNeg = N := by
    rw [Int32.toNatClampNeg_ofInt_of_le (by omega) (by omega)]
    exact Int.toNat_natCast N
  have eM : (Int32.ofInt (M : Int)).toNatClampNeg = M := by
    rw [Int32.toNatClampNeg_ofInt_of_le (by omega) (by omega)]
    exact Int.toNat_natCast M
  have gN : ¬ Int32.ofInt (N : Int) < 0 := by
    rw [mr_z, mr_lt ⟨by omega, by omega⟩ mr_in0]
    omega
  have gM : ¬ Int32.ofInt (M : Int) < 0 := by
    rw [mr_z, mr_lt ⟨by omega, by omega⟩ mr_in0]
    omega
  intro T hT X
  obtain ⟨vm₁, cA, comp, hW, hfA, hfC, -, -, X1, step⟩ := X.multianewarray2F hx (own := own) (index := idx) (ty := .int) hown (hts _ hcl) hov2 (hts _ har) (g := F0 m pc lc ((vI (M : Int) :: vI (N : Int) :: st).map (mr_cv G))) rfl (by rw [hb]; exact d) (n := Int32.ofInt (N : Int)) (k := Int32.ofInt (M : Int)) (rest := st.map (mr_cv G)) rfl gN gM (by rw [eN]; omega) (by rw [eM]; exact Nat.le_trans (Nat.mul_le_mul_right _ hM) (by decide)) (by rw [eM]; omega) rfl rfl (by rw [eN]; exact hcs.1) (by rw [eN, eM]; exact hcs.2)
  rw [eN, eM] at X1 step
  have hTz : (T.setVm vm₁).heap.size = h := by show T.heap.size = h; rw [hT]; exact hz
  obtain ⟨f1, f2, -⟩ := Jvm.Free.Multi.fill_facts (T.setVm vm₁) cA comp N M (defaultValue .int) N
  have f3 := Jvm.Free.Multi.fill_inner (T.setVm vm₁) cA comp N M (defaultValue .int) N
  have ho : ∀ q : Nat, q < H.size → (Jvm.Free.Multi.fill (T.setVm vm₁) cA comp N M (defaultValue .int) N).heap[q]? = H[q]? := fun q hq => by
    rw [Jvm.Free.Multi.fill_old (T.setVm vm₁) cA comp N M (defaultValue .int) (a := q) (by rw [hTz, ← hz]; exact hq) N]
    show T.heap[q]? = H[q]?
    rw [hT]
  rw [hTz] at f1 f2 f3
  have hA4 : G.2.1 4 = cA := Option.some.inj (Eq.trans (Eq.symm (show s.vm.findClass ("[" ++ (FieldType.array .int).toString) = some (G.2.1 4) from (hK.1.2 4 _ rfl).2)) hfA)
  have hA0 : G.2.1 0 = comp := Option.some.inj (Eq.trans (Eq.symm (show s.vm.findClass (FieldType.array .int).toString = some (G.2.1 0) from (hK.1.2 0 _ rfl).2)) hfC)
  have e9 : (vR kk 0 :: st).map (mr_cv G) = .ref h :: st.map (mr_cv G) := by
    have := had 0 (Nat.zero_le _)
    show Value.ref (mr_ad G kk 0) :: _ = _
    rw [this]
    rfl
  have hk := kc (Jvm.Free.Multi.fill (T.setVm vm₁) cA comp N M (defaultValue .int) N).heap locs lc f1 (hC.born ho (k := kk) (e := .inr (.inr (.inl (N, M, fun _ _ => 0)))) ⟨?_, fun i hi => ?_⟩) (mr_S.born hS (by rw [f1]; omega) ho) hl
  · rw [e9] at hk
    obtain ⟨t, a1, b1⟩ := hk _ rfl X1
    refine ⟨t, step t ?_, b1⟩
    have hTz2 : T.heap.size = h := hTz
    rw [hTz2]
    exact a1
  · show (Jvm.Free.Multi.fill (T.setVm vm₁) cA comp N M (defaultValue .int) N).heap[mr_ad G kk 0]? = some _
    rw [had 0 (Nat.zero_le _), Nat.add_zero, f2, nw_outer_e, ← hA4]
    refine congrArg some ?_
    show arrV (G.2.1 4) N (fun j => Value.ref (h + 1 + j)) = arrV (G.2.1 4) N (fun j => va_rf (some (mr_ad G kk (j + 1))))
    unfold arrV
    have e : (Array.ofFn (n := N) fun j => Value.ref (h + 1 + j.val)) = Array.ofFn (n := N) fun j => va_rf (some (mr_ad G kk (j.val + 1))) := by
      refine congrArg Array.ofFn (funext fun j => ?_)
      rw [had (j.val + 1) j.isLt]
      show Value.ref (h + 1 + j.val) = Value.ref (h + (j.val + 1))
      exact congrArg Value.ref (show (h + 1 + j.val : Nat) = h + (j.val + 1) by omega)
    rw [e]
  · show (Jvm.Free.Multi.fill (T.setVm vm₁) cA comp N M (defaultValue .int) N).heap[mr_ad G kk (i + 1)]? = some (arrV (G.2.1 0) M (fun _ => .int (Int32.ofInt 0)))
    rw [had (i + 1) hi, show h + (i + 1) = h + 1 + i by omega, f3 i hi, nw_inner_e, hA0]
end NW3
