/-! THE LAW'S FRAME: as the layer, but with room and counts that stand above nought -/
def mr_DJ (p : Program) (l : Launch) (e : Env) (R : Room) (s : State) (m : MethodId) (args : Array Value) (below : List Frame) (meth : Method) (c : Code) (G : mr_G) (nL nc ns : Nat) (Q : State → Prop) (pc : Nat) (ls : List (Option mr_AV)) (st : List mr_AV) (w : mr_Wd) : Prop :=
  ∀ (H : Heap) (locs : List Loc) (lc : Array Slot), mr_C G w H → va_S (mr_A G) s.heap H locs → mr_ls G nL ls lc → W p l e R s m args below meth c H locs nc ns Q (F0 m pc lc (st.map (mr_cv G)))
section LWD
variable {p : Program} {l : Launch} {e : Env} {R : Room} {s : State} {m : MethodId} {args : Array Value} {below : List Frame} {meth : Method} {c : Code} {G : mr_G} {own : String} {cc : ByteArray} {nL : Nat} {ret : Option FieldType} {nc ns : Nat} {Q : State → Prop} {pc : Nat} {ls : List (Option mr_AV)} {st : List mr_AV} {w : mr_Wd}
theorem mrD_iadd {x y : Int} (hh : mr_Hy p s m args meth c G own cc nL ret) (d : decode cc pc = .ok (.iadd, 1)) (k : mr_DJ p l e R s m args below meth c G nL nc ns Q (pc + 1) ls (vI (x + y) :: st) w) : mr_DJ p l e R s m args below meth c G nL nc ns Q pc ls (vI y :: vI x :: st) w := by
  intro H locs lc hC hS hl
  have h := (k H locs lc hC hS hl)
  refine lv_iadd hh.1 hh.2.1 d ?_
  rw [← Int32.ofInt_add]
  exact h
theorem mrD_isub {x y : Int} (hh : mr_Hy p s m args meth c G own cc nL ret) (d : decode cc pc = .ok (.isub, 1)) (k : mr_DJ p l e R s m args below meth c G nL nc ns Q (pc + 1) ls (vI (x - y) :: st) w) : mr_DJ p l e R s m args below meth c G nL nc ns Q pc ls (vI y :: vI x :: st) w := by
  intro H locs lc hC hS hl
  have h := (k H locs lc hC hS hl)
  refine lv_isub hh.1 hh.2.1 d ?_
  rw [← Int32.ofInt_sub]
  exact h
theorem mrD_iconst {n : Int} (hh : mr_Hy p s m args meth c G own cc nL ret) (d : decode cc pc = .ok (.iconst n, 1)) (k : mr_DJ p l e R s m args below meth c G nL nc ns Q (pc + 1) ls (vI n :: st) w) : mr_DJ p l e R s m args below meth c G nL nc ns Q pc ls st w := by
  intro H locs lc hC hS hl
  exact lv_iconst hh.1 hh.2.1 d rfl (k H locs lc hC hS hl)
theorem mrD_bipush {n : Int} (hh : mr_Hy p s m args meth c G own cc nL ret) (d : decode cc pc = .ok (.bipush n, 2)) (hn : (Int8.ofInt n).toInt32 = Int32.ofInt n) (k : mr_DJ p l e R s m args below meth c G nL nc ns Q (pc + 2) ls (vI n :: st) w) : mr_DJ p l e R s m args below meth c G nL nc ns Q pc ls st w := by
  intro H locs lc hC hS hl
  exact lv_bipush hh.1 hh.2.1 d hn (k H locs lc hC hS hl)
theorem mrD_iload {i : Nat} {x : Int} (hh : mr_Hy p s m args meth c G own cc nL ret) (d : decode cc pc = .ok (.iload i, 2)) (hi : ls[i]? = some (some (vI x))) (k : mr_DJ p l e R s m args below meth c G nL nc ns Q (pc + 2) ls (vI x :: st) w) : mr_DJ p l e R s m args below meth c G nL nc ns Q pc ls st w := by
  intro H locs lc hC hS hl
  exact lv_iload hh.1 hh.2.1 d (hl.2.2 _ _ hi) (k H locs lc hC hS hl)
theorem mrD_aload_n {i : Fin 4} {a b : Nat} (hh : mr_Hy p s m args meth c G own cc nL ret) (d : decode cc pc = .ok (.aload_n i, 1)) (hi : ls[(i : Nat)]? = some (some (vR a b))) (k : mr_DJ p l e R s m args below meth c G nL nc ns Q (pc + 1) ls (vR a b :: st) w) : mr_DJ p l e R s m args below meth c G nL nc ns Q pc ls st w := by
  intro H locs lc hC hS hl
  exact lv_aload_n hh.1 hh.2.1 d rfl (hl.2.2 _ _ hi) (k H locs lc hC hS hl)
theorem mrD_aload_nS {i : Fin 4} {j : Nat} (hh : mr_Hy p s m args meth c G own cc nL ret) (d : decode cc pc = .ok (.aload_n i, 1)) (hi : ls[(i : Nat)]? = some (some (vS j))) (k : mr_DJ p l e R s m args below meth c G nL nc ns Q (pc + 1) ls (vS j :: st) w) : mr_DJ p l e R s m args below meth c G nL nc ns Q pc ls st w := by
  intro H locs lc hC hS hl
  exact lv_aload_n hh.1 hh.2.1 d rfl (hl.2.2 _ _ hi) (k H locs lc hC hS hl)
theorem mrD_iand {x y : Int} (n : Nat) (hn : n < 32) (hh : mr_Hy p s m args meth c G own cc nL ret) (d : decode cc pc = .ok (.iand, 1)) (hy : y = 2 ^ n - 1) (k : mr_DJ p l e R s m args below meth c G nL nc ns Q (pc + 1) ls (vI (x % 2 ^ n) :: st) w) : mr_DJ p l e R s m args below meth c G nL nc ns Q pc ls (vI y :: vI x :: st) w := by
  intro H locs lc hC hS hl
  have h := (k H locs lc hC hS hl)
  refine lv_iand hh.1 hh.2.1 d ?_
  rw [hy, mr_and_mask x n hn]
  exact h
theorem mrD_goto {off : Int} {tgt : Nat} (hh : mr_Hy p s m args meth c G own cc nL ret) (d : decode cc pc = .ok (.goto off, 3)) (ht : (pc : Int) + off = (tgt : Int)) (k : mr_DJ p l e R s m args below meth c G nL nc ns Q tgt ls st w) : mr_DJ p l e R s m args below meth c G nL nc ns Q pc ls st w := by
  intro H locs lc hC hS hl
  exact lv_goto hh.1 hh.2.1 d ht (k H locs lc hC hS hl)
theorem mrD_same {x y : Int} {off : Int} {tgt : Nat} (hh : mr_Hy p s m args meth c G own cc nL ret) (d : decode cc pc = .ok (.if_icmp .eq off, 3)) (ht : (pc : Int) + off = (tgt : Int)) (hxy : x = y) (k : mr_DJ p l e R s m args below meth c G nL nc ns Q tgt ls st w) : mr_DJ p l e R s m args below meth c G nL nc ns Q pc ls (vI y :: vI x :: st) w := by
  intro H locs lc hC hS hl
  subst hxy
  exact lv_icmp_eq hh.1 hh.2.1 d ht (fun _ => (k H locs lc hC hS hl)) (fun q => absurd rfl q)
theorem mrD_istore {i : Nat} {x : Int} (hh : mr_Hy p s m args meth c G own cc nL ret) (d : decode cc pc = .ok (.istore i, 2)) (hn : mr_no2 ls = true) (hi : (i : Nat) < nL) (k : mr_DJ p l e R s m args below meth c G nL nc ns Q (pc + 2) (ls.set (i : Nat) (some (vI x))) st w) : mr_DJ p l e R s m args below meth c G nL nc ns Q pc ls (vI x :: st) w := by
  intro H locs lc hC hS hl
  exact lv_istore hh.1 hh.2.1 d (mr_ls_has hl) hi rfl (fun lc2 h2 => k H locs lc2 hC hS (mr_ls_set hn h2))
theorem mrD_iinc {i : Nat} {n x : Int} (hh : mr_Hy p s m args meth c G own cc nL ret) (d : decode cc pc = .ok (.iinc i n, 3)) (hn : mr_no2 ls = true) (hi : i < nL) (hx : ls[i]? = some (some (vI x))) (k : mr_DJ p l e R s m args below meth c G nL nc ns Q (pc + 3) (ls.set i (some (vI (x + n)))) st w) : mr_DJ p l e R s m args below meth c G nL nc ns Q pc ls st w := by
  intro H locs lc hC hS hl
  obtain ⟨q, hq⟩ := List.getElem?_of_mem (mr_pl_in (G := G) hx)
  exact lv_iinc hh.1 hh.2.1 d (mr_ls_has hl) hq (Int32.ofInt_add x n).symm hi rfl (fun lc2 h2 => k H locs lc2 hC hS (mr_ls_set (v := vI (x + n)) hn h2))
theorem mrD_tableIn {dflt lo hi : Int} {offs : Array Int} {len : Nat} {x off : Int} {tgt : Nat} (hh : mr_Hy p s m args meth c G own cc nL ret) (d : decode cc pc = .ok (.tableswitch dflt lo hi offs, len)) (hx : InR x) (h1 : lo ≤ x) (h2 : x ≤ hi) (ho : offs[(x - lo).toNat]? = some off) (ht : (pc : Int) + off = (tgt : Int)) (k : mr_DJ p l e R s m args below meth c G nL nc ns Q tgt ls st w) : mr_DJ p l e R s m args below meth c G nL nc ns Q pc ls (vI x :: st) w := by
  intro H locs lc hC hS hl
  exact lv_tableIn hh.1 hh.2.1 d (by rw [mr_toInt hx]; omega) (by rw [mr_toInt hx]; omega) (by rw [mr_toInt hx]; exact ho) ht (k H locs lc hC hS hl)
theorem mrD_tableOut {dflt lo hi : Int} {offs : Array Int} {len : Nat} {x : Int} {tgt : Nat} (hh : mr_Hy p s m args meth c G own cc nL ret) (d : decode cc pc = .ok (.tableswitch dflt lo hi offs, len)) (hx : InR x) (h : x < lo ∨ hi < x) (ht : (pc : Int) + dflt = (tgt : Int)) (k : mr_DJ p l e R s m args below meth c G nL nc ns Q tgt ls st w) : mr_DJ p l e R s m args below meth c G nL nc ns Q pc ls (vI x :: st) w := by
  intro H locs lc hC hS hl
  exact lv_tableOut hh.1 hh.2.1 d (by rw [mr_toInt hx]; exact h) ht (k H locs lc hC hS hl)
theorem mrD_weak (ls2 : List (Option mr_AV)) (hh : mr_Hy p s m args meth c G own cc nL ret) (h : mr_leL ls2 ls) (k : mr_DJ p l e R s m args below meth c G nL nc ns Q pc ls2 st w) : mr_DJ p l e R s m args below meth c G nL nc ns Q pc ls st w := by
  intro H locs lc hC hS hl
  exact k H locs lc hC hS ⟨hl.1, hl.2.1, fun i v hi => hl.2.2 i v (mr_leL_at h hi)⟩
theorem mrD_gt {x y : Int} {off : Int} {tgt : Nat} (hh : mr_Hy p s m args meth c G own cc nL ret) (d : decode cc pc = .ok (.if_icmp .gt off, 3)) (ht : (pc : Int) + off = (tgt : Int)) (hx : InR x) (hy : InR y) (kt : y < x → mr_DJ p l e R s m args below meth c G nL nc ns Q tgt ls st w) (kf : x ≤ y → mr_DJ p l e R s m args below meth c G nL nc ns Q (pc + 3) ls st w) : mr_DJ p l e R s m args below meth c G nL nc ns Q pc ls (vI y :: vI x :: st) w := by
  intro H locs lc hC hS hl
  refine lv_icmp_gt hh.1 hh.2.1 d ht (fun q => ?_) (fun q => ?_)
  · exact kt (by have := (mr_lt hy hx).mp q; omega) H locs lc hC hS hl
  · exact kf (by have h9 := mt (mr_lt hy hx).mpr q; omega) H locs lc hC hS hl
theorem mrD_if_eq {x : Int} {off : Int} {tgt : Nat} (hh : mr_Hy p s m args meth c G own cc nL ret) (d : decode cc pc = .ok (.ifCond .eq off, 3)) (ht : (pc : Int) + off = (tgt : Int)) (hx : InR x) (kt : x = 0 → mr_DJ p l e R s m args below meth c G nL nc ns Q tgt ls st w) (kf : x ≠ 0 → mr_DJ p l e R s m args below meth c G nL nc ns Q (pc + 3) ls st w) : mr_DJ p l e R s m args below meth c G nL nc ns Q pc ls (vI x :: st) w := by
  intro H locs lc hC hS hl
  refine lv_if_eq hh.1 hh.2.1 d ht (fun q => ?_) (fun q => ?_)
  · exact kt ((mr_eq hx mr_in0).mp q) H locs lc hC hS hl
  · exact kf (fun h9 => q ((mr_eq hx mr_in0).mpr h9)) H locs lc hC hS hl
theorem mrD_if_ne {x : Int} {off : Int} {tgt : Nat} (hh : mr_Hy p s m args meth c G own cc nL ret) (d : decode cc pc = .ok (.ifCond .ne off, 3)) (ht : (pc : Int) + off = (tgt : Int)) (hx : InR x) (kt : x ≠ 0 → mr_DJ p l e R s m args below meth c G nL nc ns Q tgt ls st w) (kf : x = 0 → mr_DJ p l e R s m args below meth c G nL nc ns Q (pc + 3) ls st w) : mr_DJ p l e R s m args below meth c G nL nc ns Q pc ls (vI x :: st) w := by
  intro H locs lc hC hS hl
  refine lv_if_ne hh.1 hh.2.1 d ht (fun q => ?_) (fun q => ?_)
  · exact kt (fun h9 => q ((mr_eq hx mr_in0).mpr h9)) H locs lc hC hS hl
  · exact kf ((mr_eq hx mr_in0).mp q) H locs lc hC hS hl
/-- the script's length, an int of it -/
theorem mrD_slen {j L : Nat} {xs : Nat → Int32} (hh : mr_Hy p s m args meth c G own cc nL ret) (hX : va_X (G.2.2.2.1 j) L xs s s.heap) (hbl : G.2.2.2.1 j < s.heap.size) (hbA : ¬ mr_A G (G.2.2.2.1 j)) (d : decode cc pc = .ok (.arraylength, 1)) (k : mr_DJ p l e R s m args below meth c G nL nc ns Q (pc + 1) ls (vI (L : Int) :: st) w) : mr_DJ p l e R s m args below meth c G nL nc ns Q pc ls (vS j :: st) w := by
  intro H locs lc hC hS hl
  exact va_slen hh.1 hh.2.1 hX hbl hbA hS d (k H locs lc hC hS hl)
theorem mrD_sld {j L : Nat} {xs : Nat → Int32} {i : Int} (hh : mr_Hy p s m args meth c G own cc nL ret) (hX : va_X (G.2.2.2.1 j) L xs s s.heap) (hbl : G.2.2.2.1 j < s.heap.size) (hbA : ¬ mr_A G (G.2.2.2.1 j)) (h0 : 0 ≤ i) (h1 : i < L) (hL : L < 2147483648) (d : decode cc pc = .ok (.iaload, 1)) (k : mr_DJ p l e R s m args below meth c G nL nc ns Q (pc + 1) ls (vI ((xs i.toNat).toInt) :: st) w) : mr_DJ p l e R s m args below meth c G nL nc ns Q pc ls (vI i :: vS j :: st) w := by
  intro H locs lc hC hS hl
  obtain ⟨e1, e2⟩ := mr_idx h0 h1 hL
  refine va_sld hh.1 hh.2.1 hX hbl hbA hS e1 d ?_
  have h := (k H locs lc hC hS hl)
  rw [e2]
  have e3 : mr_cv G (vI ((xs i.toNat).toInt)) = .int (xs i.toNat) := by
    show Value.int (Int32.ofInt _) = _
    rw [Int32.ofInt_toInt]
  have e4 : (vI ((xs i.toNat).toInt) :: st).map (mr_cv G) = .int (xs i.toNat) :: st.map (mr_cv G) := by rw [List.map_cons, e3]
  rw [e4] at h
  exact h
/-- behind a call -/
theorem mrD_back {H : Heap} {locs : List Loc} {lc : Array Slot} {st0 : List Value} {a : Array Value} {Po2 : Option mr_AV → mr_Wd → Prop}
    (hr : va_Run p l e R s m args below meth c H locs nc ns 0 0 (F0 m pc lc st0) (st.map (mr_cv G)) (mr_Q G Po2 a) (mr_A G)) (hS : va_S (mr_A G) s.heap H locs)
    (kk : ∀ (r : Option mr_AV) (w2 : mr_Wd), Po2 r w2 → mr_DJ p l e R s m args below meth c G nL nc ns Q (pc + 3) ls (r.toList ++ st) w2) (hl : mr_ls G nL ls lc) :
    W p l e R s m args below meth c H locs nc ns Q (F0 m pc lc st0) := by
  intro T hT X
  obtain ⟨v, st₀, t, T', L, h0, X', hL, e1, e2, ⟨⟨r, w2, hv, hp, hC⟩, hz, hk⟩, go⟩ := hr T hT X
  cases hv
  rw [h0] at hz hk
  have hS2 : va_S (mr_A G) s.heap T'.heap (locs ++ L) := ⟨Nat.le_trans hS.1 (by rw [e1]; exact hz), fun q h1 h2 => by rw [e1, hk q (Nat.lt_of_lt_of_le h1 hS.1) h2]; exact hS.2.1 q h1 h2, fun q hq => by
      rcases List.mem_append.mp hq with h | h
      · exact hS.2.2 q h
      · exact hL q h⟩
  obtain ⟨t2, a1, b1⟩ := kk r w2 hp T'.heap (locs ++ L) lc (by rw [e1]; exact hC) hS2 hl T' rfl X'
  refine ⟨t2, go t2 ?_, b1⟩
  have e3 : (r.map (mr_cv G)).toList ++ st.map (mr_cv G) = (r.toList ++ st).map (mr_cv G) := by cases r <;> simp
  show Steps _ _ _ (T'.setTop (F0 m (pc + 3) lc ((r.map (mr_cv G)).toList ++ st.map (mr_cv G)))) t2
  rw [e3]
  exact a1
theorem mrD_callV {y : MethodName} {idx ci n b : Nat} {bytes : ByteArray} {maxL rf2 rl2 : Nat} {ret2 : Option FieldType} {T : List mr_AV → mr_Wd → (Option mr_AV → mr_Wd → Prop) → Prop} {as : List mr_AV} {fs : List mr_AV} {st0 : List mr_AV} (hh : mr_Hy p s m args meth c G own cc nL ret)
    (d : decode cc pc = .ok (.invokevirtual idx, 3)) (hM : mr_Ok l G y bytes maxL ret2 rf2 rl2 T) (hl0 : Cond.methodLink own idx y ∈ mr_ws) (hcl : mr_CL y bytes maxL ret2 n) (hcv : mr_CV y ci) (hR : rf2 + 1 ≤ R.frames ∧ 8 + (maxL + 11) + rl2 ≤ R.locals) (hn : as.length = n) (hst : st0 = as.reverse ++ vR b 0 :: st) (hcat : (st.map mr_cat).sum ≤ 8) (hw : w b = eO ci fs) (hcs : nc ≤ R.cells ∧ ns ≤ R.slots)
    (kk : T (vR b 0 :: as) w (fun r w2 => mr_DJ p l e R s m args below meth c G nL nc ns Q (pc + 3) ls (r.toList ++ st) w2)) : mr_DJ p l e R s m args below meth c G nL nc ns Q pc ls st0 w := by
  intro H locs lc hC hS hl
  obtain ⟨hx, hb, hml, hr, hlk, hown, hts, hK⟩ := id hh
  obtain ⟨T0, N0, hci⟩ := hcv.2.2
  have hc := hC b
  rw [hw] at hc
  obtain ⟨r, q0, cell, q1, q2, q3, q4⟩ := hc
  have hfc : s.vm.findClass y.cls = some (G.1.1 ci) := (hK.1.1 ci _ hci).2.1
  have hstk : st0.map (mr_cv G) = (as.map (mr_cv G)).reverse ++ .ref (mr_ad G b 0) :: st.map (mr_cv G) := by
    rw [hst]; simp [mr_cv]
  refine mrD_back (nL := nL) (ls := ls) (a := (Value.ref (mr_ad G b 0) :: as.map (mr_cv G)).toArray) (va_runV (As := as.map (mr_cv G)) (b := mr_ad G b 0) (C := y.cls) (n := n) (index := idx) ⟨hx, hb, hml, hown, hts⟩ (hM (vR b 0 :: as) w _ kk) ⟨callB_of n hts (mr_goodIn hcl.1) rfl rfl rfl (hts _ hcl.2.1) (hts _ hl0) hcl.2.2 hR, hts _ hcv.1, hts _ hcv.2.1⟩
    ⟨mr_Pc.blind _ _ _, ⟨cell, q1, by rw [q3]; rfl, by rw [q2]; exact hfc⟩, fun U hU hW => ⟨rfl, by rw [hU]; exact hC, hK.to (locs := locs) hW (by rw [hU]; exact hS)⟩⟩ rfl (by rw [List.length_map]; exact hn) hl.1 hstk (lv_room (by rw [mr_cats]; exact hcat)) d hcs) hS (fun r w2 h => h) hl
/-- an int of the script at the local i and k more -/
theorem mrD_arg {L : Nat} {xs : Nat → Int32} {i k : Int} (hh : mr_Hy p s m args meth c G own cc nL ret) (hX : va_X (G.2.2.2.1 300) L xs s s.heap) (hbl : G.2.2.2.1 300 < s.heap.size) (hbA : ¬ mr_A G (G.2.2.2.1 300)) (hL : L < 2147483648) (h0 : ls[0]? = some (some (vS 300))) (h4 : ls[4]? = some (some (vI i))) (d0 : decode cc pc = .ok (.aload_n 0, 1)) (d1 : decode cc (pc + 1) = .ok (.iload 4, 2)) (d2 : decode cc (pc + 3) = .ok (.iconst k, 1)) (d3 : decode cc (pc + 4) = .ok (.iadd, 1)) (d4 : decode cc (pc + 5) = .ok (.iaload, 1)) (g0 : 0 ≤ i + k) (g1 : i + k < L)
    (kk : mr_DJ p l e R s m args below meth c G nL nc ns Q (pc + 6) ls (vI ((xs (i + k).toNat).toInt) :: st) w) : mr_DJ p l e R s m args below meth c G nL nc ns Q pc ls st w :=
  mrD_aload_nS hh d0 h0 (mrD_iload hh d1 h4 (mrD_iconst hh d2 (mrD_iadd hh d3 (mrD_sld hh hX hbl hbA g0 g1 hL d4 kk))))
/-- an int as a boolean -/
theorem mrD_bool {x : Int} (hh : mr_Hy p s m args meth c G own cc nL ret) (hx : InR x) (d0 : decode cc pc = .ok (.ifCond .eq 7, 3)) (d1 : decode cc (pc + 3) = .ok (.iconst 1, 1)) (d2 : decode cc (pc + 4) = .ok (.goto 4, 3)) (d3 : decode cc (pc + 7) = .ok (.iconst 0, 1))
    (kk : ∀ z : Int, z = 0 ∨ z = 1 → (z = 0 ↔ x = 0) → mr_DJ p l e R s m args below meth c G nL nc ns Q (pc + 8) ls (vI z :: st) w) : mr_DJ p l e R s m args below meth c G nL nc ns Q pc ls (vI x :: st) w :=
  mrD_if_eq (tgt := pc + 7) hh d0 (by omega) hx (fun q => mrD_iconst hh d3 (kk 0 (Or.inl rfl) ⟨fun _ => q, fun _ => rfl⟩)) (fun q => mrD_iconst hh d1 (mrD_goto (tgt := pc + 8) hh d2 (by omega) (kk 1 (Or.inr rfl) ⟨fun h => absurd h (by decide), fun h => absurd h q⟩)))
end LWD
