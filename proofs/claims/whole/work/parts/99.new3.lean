/-! CONSTRUCTORS: arrays of arrays of ints -/
section NW3
variable {p : Program} {l : Launch} {e : Env} {R : Room} {s : State} {m : MethodId} {args : Array Value} {below : List Frame} {meth : Method} {c : Code} {G : mr_G} {own : String} {cc : ByteArray} {nL : Nat} {ret : Option FieldType} {nc ns h : Nat} {Q : State → Prop} {pc : Nat} {ls : List (Option mr_AV)} {st : List mr_AV} {w : mr_Wd}
theorem mrE_multi {kk N M idx : Nat} {n k : Int} (hh : mr_Hy p s m args meth c G own cc nL ret) (d : decode cc pc = .ok (.multianewarray idx 2, 4)) (hcl : Cond.classLink own idx "[[I" ∈ mr_ws) (hov : Cond.arrayOver (.array .int) ∈ lw_tbl) (hov2 : (Cond.arrayOver (.array .int)).before args s = true) (har : Cond.arrayClass .int ∈ mr_ws) (hn : n = (N : Int)) (hk : k = (M : Int)) (hN : N ≤ 27000) (hM : M ≤ 27000) (had : ∀ i : Nat, i ≤ N → mr_ad G kk i = h + i) (hcs : nc + (1 + N) ≤ R.cells ∧ ns + (N + N * M) ≤ R.slots)
    (kc : mr_E p l e R s m args below meth c G nL (nc + 1 + N) (ns + N + N * M) Q (h + 1 + N) (pc + 4) ls (vR kk 0 :: st) (mr_up w kk (eM N M (fun _ _ => 0)))) : mr_E p l e R s m args below meth c G nL nc ns Q h pc ls (vI k :: vI n :: st) w := by
  intro H locs lc hz hC hS hl
  obtain ⟨hx, hb, hml, hr, hlk, hown, hts, hK⟩ := id hh
  subst hn hk
  have eN : (Int32.ofInt (N : Int)).toNatClampNeg = N := by
    rw [Int32.toNatClampNeg_ofInt_of_le (by omega) (by omega)]
    exact Int.toNat_natCast N
  have eM : (Int32.ofInt (M : Int)).toNatClampNeg = M := by
    rw [Int32.toNatClampNeg_ofInt_of_le (by omega) (by omega)]
    exact Int.toNat_natCast M
  have gN : ¬ Int32.ofInt (N : Int) < 0 := by
    rw [mr_z, mr_lt ⟨by omega, by omega⟩ mr_in0]
    omega
  have gM : ¬ Int32.ofInt (M : Int) < 0 := by
    rw [mr_z, mr_lt ⟨by omega, by omega⟩ mr_in0]
    omega
  refine nw_multi hx hb hown (hts _ hcl) hov2 (hts _ har) d gN gM eN eM hN hM hz hcs.1 hcs.2 fun H1 cA cI hfA hfI f1 f2 f3 f4 => ?_
  have ho : ∀ q : Nat, q < H.size → H1[q]? = H[q]? := fun q hq => f4 q (by omega)
  have hA4 : G.2.1 4 = cA := Option.some.inj (Eq.trans (Eq.symm (show s.vm.findClass ("[" ++ (FieldType.array .int).toString) = some (G.2.1 4) from (hK.1.2 4 _ rfl).2)) hfA)
  have hA0 : G.2.1 0 = cI := Option.some.inj (Eq.trans (Eq.symm (show s.vm.findClass (FieldType.array .int).toString = some (G.2.1 0) from (hK.1.2 0 _ rfl).2)) hfI)
  have e9 : (vR kk 0 :: st).map (mr_cv G) = .ref h :: st.map (mr_cv G) := by
    have := had 0 (Nat.zero_le _)
    show Value.ref (mr_ad G kk 0) :: _ = _
    rw [this]
    rfl
  have hk := kc H1 locs lc f1 (hC.born ho (k := kk) (e := .inr (.inr (.inl (N, M, fun _ _ => 0)))) ⟨?_, fun i hi => ?_⟩) (mr_S.born hS (by rw [f1]; omega) ho) hl
  · rw [e9] at hk
    exact hk
  · show H1[mr_ad G kk 0]? = some (arrV (G.2.1 4) N (fun j => va_rf (some (mr_ad G kk (j + 1)))))
    rw [had 0 (Nat.zero_le _), Nat.add_zero, f2, ← hA4]
    refine congrArg some ?_
    unfold nw_ov arrV
    have e : (Array.ofFn (n := N) fun j => va_rf (if j.val < N then some (h + 1 + j.val) else none)) = Array.ofFn (n := N) fun j => va_rf (some (mr_ad G kk (j.val + 1))) := by
      refine congrArg Array.ofFn (funext fun j => ?_)
      rw [if_pos j.isLt, had (j.val + 1) j.isLt, show h + (j.val + 1) = h + 1 + j.val by omega]
    rw [e]
  · show H1[mr_ad G kk (i + 1)]? = some (arrV (G.2.1 0) M (fun _ => .int (Int32.ofInt 0)))
    rw [had (i + 1) hi, show h + (i + 1) = h + 1 + i by omega, f3 i hi, hA0]
    rfl
end NW3
