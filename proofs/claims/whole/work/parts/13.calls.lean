/-- locals at a method's entry -/
def mr_en : List mr_AV → List (Option mr_AV)
  | [] => []
  | .inr (.inl x) :: r => some (vL x) :: none :: mr_en r
  | v :: r => some v :: mr_en r
def mr_pad (n : Nat) (ls : List (Option mr_AV)) : List (Option mr_AV) := ls ++ List.replicate (n - ls.length) none
def mr_Pc (G : mr_G) (a : List mr_AV) (w : mr_Wd) : Array Value → State → Prop := fun v U => v = (a.map (mr_cv G)).toArray ∧ mr_C G w U.heap ∧ mr_K G U
/-- a method's contract: by a transformer -/
def mr_Ok (l : Launch) (G : mr_G) (y : MethodName) (cc : ByteArray) (nL : Nat) (ret : Option FieldType) (rf rl : Nat) (T : List mr_AV → mr_Wd → (Option mr_AV → mr_Wd → Prop) → Prop) : Prop :=
  ∀ (a : List mr_AV) (w : mr_Wd) (Po : Option mr_AV → mr_Wd → Prop), T a w Po → Met l y (Cond.code y cc nL ret :: mr_ws) { frames := rf, cells := 0, slots := 0, locals := rl } (mr_Pc G a w) (mr_Q G Po) 0 0 (mr_A G)
theorem mr_Pc.blind (G : mr_G) (a : List mr_AV) (w : mr_Wd) : FrameBlind (mr_Pc G a w) := fun v U g mk h => ⟨h.1, h.2.1, h.2.2.same rfl rfl⟩
theorem mr_sl1 {v : Value} {r : List Value} (h : v.category = 1) : lg_sl (v :: r) = .val v :: lg_sl r := by
  simp [lg_sl, h]
theorem mr_sl2 {v : Value} {r : List Value} (h : v.category = 2) : lg_sl (v :: r) = .val v :: .second :: lg_sl r := by
  simp [lg_sl, h]
theorem mr_en1 (G : mr_G) {u : mr_AV} {r : List mr_AV} (h : (mr_cv G u).category = 1) (he : mr_en (u :: r) = some u :: mr_en r) (ih : (lg_sl (r.map (mr_cv G))).length = (mr_en r).length ∧ ∀ (i : Nat) (v : mr_AV), (mr_en r)[i]? = some (some v) → (lg_sl (r.map (mr_cv G)))[i]? = some (.val (mr_cv G v))) :
    (lg_sl ((u :: r).map (mr_cv G))).length = (mr_en (u :: r)).length ∧ ∀ (i : Nat) (v : mr_AV), (mr_en (u :: r))[i]? = some (some v) → (lg_sl ((u :: r).map (mr_cv G)))[i]? = some (.val (mr_cv G v)) := by
  rw [List.map_cons, mr_sl1 h, he]
  refine ⟨by simp [ih.1], fun i v hi => ?_⟩
  cases i with
  | zero => simp at hi; subst hi; rfl
  | succ j => exact ih.2 j v hi
theorem mr_en_sl (G : mr_G) : ∀ (a : List mr_AV), (lg_sl (a.map (mr_cv G))).length = (mr_en a).length ∧ ∀ (i : Nat) (v : mr_AV), (mr_en a)[i]? = some (some v) → (lg_sl (a.map (mr_cv G)))[i]? = some (.val (mr_cv G v))
  | [] => ⟨rfl, fun i v h => by simp [mr_en] at h⟩
  | .inl x :: r => mr_en1 G rfl rfl (mr_en_sl G r)
  | .inr (.inl x) :: r => by
    obtain ⟨h1, h2⟩ := mr_en_sl G r
    rw [List.map_cons, mr_sl2 rfl, show mr_en (.inr (.inl x) :: r) = some (vL x) :: none :: mr_en r from rfl]
    refine ⟨by simp [h1], fun i v h => ?_⟩
    match i with
    | 0 => simp at h; subst h; rfl
    | 1 => simp at h
    | j + 2 => exact h2 j v h
  | .inr (.inr (.inl (some q))) :: r => mr_en1 G rfl rfl (mr_en_sl G r)
  | .inr (.inr (.inl none)) :: r => mr_en1 G rfl rfl (mr_en_sl G r)
  | .inr (.inr (.inr q)) :: r => mr_en1 G rfl rfl (mr_en_sl G r)
theorem mr_pad_at {n : Nat} {ls : List (Option mr_AV)} {i : Nat} {v : mr_AV} (h : (mr_pad n ls)[i]? = some (some v)) : ls[i]? = some (some v) := by
  unfold mr_pad at h
  rcases Nat.lt_or_ge i ls.length with q | q
  · rwa [List.getElem?_append_left q] at h
  · rw [List.getElem?_append_right q, List.getElem?_replicate] at h
    split at h <;> simp at h
/-- from the walk of a body to the contract -/
theorem mr_Ok.of {l : Launch} {G : mr_G} {y : MethodName} {cc : ByteArray} {nL : Nat} {ret : Option FieldType} {rf rl : Nat} {T : List mr_AV → mr_Wd → (Option mr_AV → mr_Wd → Prop) → Prop} (hy : plainFor y = true)
    (k : ∀ (a : List mr_AV) (w : mr_Wd) (Po : Option mr_AV → mr_Wd → Prop), T a w Po → (mr_en a).length ≤ nL ∧ mr_J l G y.cls cc nL ret rf rl Po 0 (mr_pad nL (mr_en a)) [] w) : mr_Ok l G y cc nL ret rf rl T := by
  intro a w Po hT
  obtain ⟨hn, hJ⟩ := k a w Po hT
  refine va_MetF (cc := cc) (maxL := nL) (ret := ret) hy rfl ?_
  intro p e s m args below meth c s₁ B hml hv
  obtain ⟨rfl, hC, hK⟩ := hv
  have hts := atoms_spec (ws := Cond.code y cc nL ret :: mr_ws) B.pre
  have hown : s.vm.findClass y.cls = some m.cls := findClass_of_methodNamed B.named
  obtain ⟨h1, h2⟩ := mr_en_sl G a
  have hl := lv_entry (a.map (mr_cv G)) (n := nL) (by rw [h1]; exact hn)
  rw [lg_entry_eq]
  refine hJ p e s m _ below meth c s.heap [] _ ⟨B.exec, B.bytes, hml, B.returns, B.notSynchronized, hown, fun w hw => hts w (List.mem_cons_of_mem _ hw), hK⟩ hC va_S.rf ⟨hl.1, hl.2.1, fun i v hi => ?_⟩
  have h3 := h2 i v (mr_pad_at hi)
  rw [List.getElem?_toArray, List.getElem?_append_left (List.getElem?_eq_some_iff.mp h3).1]
  exact h3
/-- the words of a call -/
def mr_good : Prop := True
theorem mr_ws_good {w : Cond} (h : w ∈ mr_ws) : (w.onTables && w.keeps) = true ∨ ∃ ty, w = .arrayClass ty := good_of_word (List.mem_filter.mp h).2
theorem mr_goodIn {y : MethodName} {cc : ByteArray} {nL : Nat} {ret : Option FieldType} (hc : Cond.code y cc nL ret ∈ mr_ws) : GoodIn mr_ws (Cond.code y cc nL ret :: mr_ws) := fun w h => by
  rcases List.mem_cons.mp h with rfl | h
  · exact ⟨hc, mr_ws_good hc⟩
  · exact ⟨h, mr_ws_good h⟩
section JC
variable {l : Launch} {G : mr_G} {own : String} {cc : ByteArray} {nL : Nat} {ret : Option FieldType} {rf rl : Nat} {Po : Option mr_AV → mr_Wd → Prop} {pc : Nat} {ls : List (Option mr_AV)} {st : List mr_AV} {w : mr_Wd}
def mr_cat : mr_AV → Nat
  | .inr (.inl _) => 2
  | _ => 1
theorem mr_cat_eq (v : mr_AV) : (mr_cv G v).category = mr_cat v := by
  match v with
  | .inl x => rfl
  | .inr (.inl x) => rfl
  | .inr (.inr (.inl (some q))) => rfl
  | .inr (.inr (.inl none)) => rfl
  | .inr (.inr (.inr j)) => rfl
theorem mr_cats (st : List mr_AV) : ((st.map (mr_cv G)).map fun v => v.category) = st.map mr_cat := by
  rw [List.map_map]
  exact List.map_congr_left (fun v _ => mr_cat_eq v)
/-- behind a call -/
theorem mr_back {p : Program} {e : Env} {s : State} {m : MethodId} {args : Array Value} {below : List Frame} {meth : Method} {c : Code} {H : Heap} {locs : List Loc} {lc : Array Slot} {st0 : List Value} {a : Array Value} {Po2 : Option mr_AV → mr_Wd → Prop}
    (hr : va_Run p l e { frames := rf, cells := 0, slots := 0, locals := rl } s m args below meth c H locs 0 0 0 0 (F0 m pc lc st0) (st.map (mr_cv G)) (mr_Q G Po2 a) (mr_A G)) (hS : va_S (mr_A G) s.heap H locs)
    (kk : ∀ (r : Option mr_AV) (w2 : mr_Wd), Po2 r w2 → mr_J l G own cc nL ret rf rl Po (pc + 3) ls (r.toList ++ st) w2) (hh : mr_Hy p s m args meth c G own cc nL ret) (hl : mr_ls G nL ls lc) :
    W p l e { frames := rf, cells := 0, slots := 0, locals := rl } s m args below meth c H locs 0 0 (MQ below (mr_Q G Po) args s 0 0 (mr_A G)) (F0 m pc lc st0) := by
  intro T hT X
  obtain ⟨v, st₀, t, T', L, h0, X', hL, e1, e2, ⟨⟨r, w2, hv, hp, hC⟩, hz, hk⟩, go⟩ := hr T hT X
  cases hv
  rw [h0] at hz hk
  have hS2 : va_S (mr_A G) s.heap T'.heap (locs ++ L) := ⟨Nat.le_trans hS.1 (by rw [e1]; exact hz), fun q h1 h2 => by rw [e1, hk q (Nat.lt_of_lt_of_le h1 hS.1) h2]; exact hS.2.1 q h1 h2, fun q hq => by
      rcases List.mem_append.mp hq with h | h
      · exact hS.2.2 q h
      · exact hL q h⟩
  obtain ⟨t2, a1, b1⟩ := kk r w2 hp p e s m args below meth c T'.heap (locs ++ L) lc hh (by rw [e1]; exact hC) hS2 hl T' rfl X'
  refine ⟨t2, go t2 ?_, b1⟩
  have e3 : (r.map (mr_cv G)).toList ++ st.map (mr_cv G) = (r.toList ++ st).map (mr_cv G) := by cases r <;> simp
  show Steps _ _ _ (T'.setTop (F0 m (pc + 3) lc ((r.map (mr_cv G)).toList ++ st.map (mr_cv G)))) t2
  rw [e3]
  exact a1
theorem mr_callV {y : MethodName} {idx ci n b : Nat} {bytes : ByteArray} {maxL rf2 rl2 : Nat} {ret2 : Option FieldType} {T : List mr_AV → mr_Wd → (Option mr_AV → mr_Wd → Prop) → Prop} {as : List mr_AV} {fs : List mr_AV} {st0 : List mr_AV}
    (d : decode cc pc = .ok (.invokevirtual idx, 3)) (hM : mr_Ok l G y bytes maxL ret2 rf2 rl2 T) (hl0 : Cond.methodLink own idx y ∈ mr_ws) (hcl : mr_CL y bytes maxL ret2 n) (hcv : mr_CV y ci) (hR : rf2 + 1 ≤ rf ∧ 8 + (maxL + 11) + rl2 ≤ rl) (hn : as.length = n) (hst : st0 = as.reverse ++ vR b 0 :: st) (hcat : (st.map mr_cat).sum ≤ 8) (hw : w b = eO ci fs)
    (kk : T (vR b 0 :: as) w (fun r w2 => mr_J l G own cc nL ret rf rl Po (pc + 3) ls (r.toList ++ st) w2)) : mr_J l G own cc nL ret rf rl Po pc ls st0 w := by
  intro p e s m args below meth c H locs lc hh hC hS hl
  obtain ⟨hx, hb, hml, hr, hlk, hown, hts, hK⟩ := id hh
  obtain ⟨T0, N0, hci⟩ := hcv.2.2
  have hc := hC b
  rw [hw] at hc
  obtain ⟨r, q0, cell, q1, q2, q3, q4⟩ := hc
  have hfc : s.vm.findClass y.cls = some (G.1.1 ci) := (hK.1.1 ci _ hci).2.1
  have hstk : st0.map (mr_cv G) = (as.map (mr_cv G)).reverse ++ .ref (mr_ad G b 0) :: st.map (mr_cv G) := by
    rw [hst]; simp [mr_cv]
  refine mr_back (own := own) (cc := cc) (nL := nL) (ret := ret) (ls := ls) (a := (Value.ref (mr_ad G b 0) :: as.map (mr_cv G)).toArray) (va_runV (As := as.map (mr_cv G)) (b := mr_ad G b 0) (C := y.cls) (n := n) (index := idx) ⟨hx, hb, hml, hown, hts⟩ (hM (vR b 0 :: as) w _ kk) ⟨callB_of n hts (mr_goodIn hcl.1) rfl rfl rfl (hts _ hcl.2.1) (hts _ hl0) hcl.2.2 hR, hts _ hcv.1, hts _ hcv.2.1⟩
    ⟨mr_Pc.blind _ _ _, ⟨cell, q1, by rw [q3]; rfl, by rw [q2]; exact hfc⟩, fun U hU hW => ⟨rfl, by rw [hU]; exact hC, hK.to (locs := locs) hW (by rw [hU]; exact hS)⟩⟩ rfl (by rw [List.length_map]; exact hn) hl.1 hstk (lv_room (by rw [mr_cats]; exact hcat)) d ⟨Nat.le_refl _, Nat.le_refl _⟩) hS (fun r w2 h => h) hh hl
theorem mr_callS {y : MethodName} {idx n : Nat} {bytes : ByteArray} {maxL rf2 rl2 : Nat} {ret2 : Option FieldType} {T : List mr_AV → mr_Wd → (Option mr_AV → mr_Wd → Prop) → Prop} {as : List mr_AV} {st0 : List mr_AV}
    (d : decode cc pc = .ok (.invokestatic idx, 3)) (hM : mr_Ok l G y bytes maxL ret2 rf2 rl2 T) (hl0 : Cond.methodLink own idx y ∈ mr_ws) (hcl : mr_CL y bytes maxL ret2 n) (hcs : Cond.static y ∈ mr_ws) (hR : rf2 + 1 ≤ rf ∧ 8 + (maxL + 11) + rl2 ≤ rl) (hn : as.length = n) (hst : st0 = as.reverse ++ st) (hcat : (st.map mr_cat).sum ≤ 8)
    (kk : T as w (fun r w2 => mr_J l G own cc nL ret rf rl Po (pc + 3) ls (r.toList ++ st) w2)) : mr_J l G own cc nL ret rf rl Po pc ls st0 w := by
  intro p e s m args below meth c H locs lc hh hC hS hl
  obtain ⟨hx, hb, hml, hr, hlk, hown, hts, hK⟩ := id hh
  have hstk : st0.map (mr_cv G) = (as.map (mr_cv G)).reverse ++ st.map (mr_cv G) := by
    rw [hst]; simp
  refine mr_back (own := own) (cc := cc) (nL := nL) (ret := ret) (ls := ls) (a := (as.map (mr_cv G)).toArray) (va_runS (As := as.map (mr_cv G)) (n := n) (index := idx) ⟨hx, hb, hml, hown, hts⟩ (hM as w _ kk) ⟨callB_of n hts (mr_goodIn hcl.1) rfl rfl rfl (hts _ hcl.2.1) (hts _ hl0) hcl.2.2 hR, hts _ hcs⟩
    ⟨mr_Pc.blind _ _ _, fun U hU hW => ⟨rfl, by rw [hU]; exact hC, hK.to (locs := locs) hW (by rw [hU]; exact hS)⟩⟩ rfl (by rw [List.length_map]; exact hn) hl.1 hstk (lv_room (by rw [mr_cats]; exact hcat)) d ⟨Nat.le_refl _, Nat.le_refl _⟩) hS (fun r w2 h => h) hh hl
/-- a private method of a nest mate -/
theorem mr_callVN {y : MethodName} {idx ci n b : Nat} {host : String} {bytes : ByteArray} {maxL rf2 rl2 : Nat} {ret2 : Option FieldType} {T : List mr_AV → mr_Wd → (Option mr_AV → mr_Wd → Prop) → Prop} {as : List mr_AV} {fs : List mr_AV} {st0 : List mr_AV}
    (d : decode cc pc = .ok (.invokevirtual idx, 3)) (hM : mr_Ok l G y bytes maxL ret2 rf2 rl2 T) (hl0 : ∀ U : State, mr_Ne U → va_Nw (.methodLinkNest own idx y host) U) (hcl : mr_CL y bytes maxL ret2 n) (hcv : mr_CV y ci) (hR : rf2 + 1 ≤ rf ∧ 8 + (maxL + 11) + rl2 ≤ rl) (hn : as.length = n) (hst : st0 = as.reverse ++ vR b 0 :: st) (hcat : (st.map mr_cat).sum ≤ 8) (hw : w b = eO ci fs)
    (kk : T (vR b 0 :: as) w (fun r w2 => mr_J l G own cc nL ret rf rl Po (pc + 3) ls (r.toList ++ st) w2)) : mr_J l G own cc nL ret rf rl Po pc ls st0 w := by
  intro p e s m args below meth c H locs lc hh hC hS hl
  obtain ⟨hx, hb, hml, hr, hlk, hown, hts, hK⟩ := id hh
  obtain ⟨T0, N0, hci⟩ := hcv.2.2
  have hc := hC b
  rw [hw] at hc
  obtain ⟨r, q0, cell, q1, q2, q3, q4⟩ := hc
  have hfc : s.vm.findClass y.cls = some (G.1.1 ci) := (hK.1.1 ci _ hci).2.1
  have hstk : st0.map (mr_cv G) = (as.map (mr_cv G)).reverse ++ .ref (mr_ad G b 0) :: st.map (mr_cv G) := by
    rw [hst]; simp [mr_cv]
  refine mr_back (own := own) (cc := cc) (nL := nL) (ret := ret) (ls := ls) (a := (Value.ref (mr_ad G b 0) :: as.map (mr_cv G)).toArray) (va_runVN (As := as.map (mr_cv G)) (b := mr_ad G b 0) (C := y.cls) (n := n) (index := idx) (host := host) ⟨hx, hb, hml, hown, hts⟩ (hM (vR b 0 :: as) w _ kk) ⟨va_cnB n hts (mr_goodIn hcl.1) rfl rfl rfl (hl0 _ hK.2.2.1) (hts _ hcl.2.1) hcl.2.2 hR, hts _ hcv.1, hts _ hcv.2.1⟩
    ⟨mr_Pc.blind _ _ _, ⟨cell, q1, by rw [q3]; rfl, by rw [q2]; exact hfc⟩, fun U hU hW => ⟨rfl, by rw [hU]; exact hC, hK.to (locs := locs) hW (by rw [hU]; exact hS)⟩⟩ rfl (by rw [List.length_map]; exact hn) hl.1 hstk (lv_room (by rw [mr_cats]; exact hcat)) d ⟨Nat.le_refl _, Nat.le_refl _⟩) hS (fun r w2 h => h) hh hl
/-- bits and conversions -/
theorem mr_and_mask (x : Int) (k : Nat) (hk : k < 32) : Int32.ofInt x &&& Int32.ofInt (2 ^ k - 1) = Int32.ofInt (x % 2 ^ k) := by
  apply Int32.toBitVec_inj.mp
  rw [Int32.toBitVec_and, Int32.toBitVec_ofInt, Int32.toBitVec_ofInt, Int32.toBitVec_ofInt]
  apply BitVec.eq_of_toNat_eq
  rw [BitVec.toNat_and, BitVec.toNat_ofInt, BitVec.toNat_ofInt, BitVec.toNat_ofInt]
  have hp : (2 : Nat) ^ k < 2 ^ 32 := Nat.pow_lt_pow_right (by decide) hk
  have hp1 : 1 ≤ (2 : Nat) ^ k := Nat.one_le_two_pow
  have e0 : ((2 : Int) ^ k) = (((2 : Nat) ^ k : Nat) : Int) := by simp
  obtain ⟨a, ha⟩ : ∃ a : Nat, x % ((2 ^ 32 : Nat) : Int) = (a : Int) := ⟨(x % ((2 ^ 32 : Nat) : Int)).toNat, (Int.toNat_of_nonneg (Int.emod_nonneg _ (by decide))).symm⟩
  have e1 : x % (2 : Int) ^ k = ((a % 2 ^ k : Nat) : Int) := by
    have hd : ((2 : Int) ^ k) ∣ ((2 ^ 32 : Nat) : Int) := by rw [e0]; exact Int.natCast_dvd_natCast.mpr (Nat.pow_dvd_pow 2 (by omega))
    have h9 := Int.emod_emod_of_dvd x hd
    rw [ha] at h9
    rw [← h9, e0]
    rfl
  rw [ha, e1, e0, show (((2 ^ k : Nat) : Int) - 1) = ((2 ^ k - 1 : Nat) : Int) by omega]
  have h1 : ((((2 ^ k - 1 : Nat) : Int)) % ((2 ^ 32 : Nat) : Int)).toNat = 2 ^ k - 1 := by
    rw [← Int.natCast_emod, Int.toNat_natCast, Nat.mod_eq_of_lt (by omega)]
  have h2 : ((((a % 2 ^ k : Nat) : Int)) % ((2 ^ 32 : Nat) : Int)).toNat = a % 2 ^ k := by
    rw [← Int.natCast_emod, Int.toNat_natCast, Nat.mod_eq_of_lt (Nat.lt_trans (Nat.mod_lt _ (by omega)) hp)]
  rw [h1, h2, Int.toNat_natCast, Nat.and_two_pow_sub_one_eq_mod]
theorem mr_iand {x y : Int} (k : Nat) (hk : k < 32) (d : decode cc pc = .ok (.iand, 1)) (hy : y = 2 ^ k - 1) (kk : mr_J l G own cc nL ret rf rl Po (pc + 1) ls (vI (x % 2 ^ k) :: st) w) : mr_J l G own cc nL ret rf rl Po pc ls (vI y :: vI x :: st) w := by
  intro p e s m args below meth c H locs lc hh hC hS hl
  have h := kk p e s m args below meth c H locs lc hh hC hS hl
  refine lv_iand hh.1 hh.2.1 d ?_
  rw [hy, mr_and_mask x k hk]
  exact h
theorem mr_i2b {x : Int} (d : decode cc pc = .ok (.i2b, 1)) (kk : mr_J l G own cc nL ret rf rl Po (pc + 1) ls (vI (x.bmod 256) :: st) w) : mr_J l G own cc nL ret rf rl Po pc ls (vI x :: st) w := by
  intro p e s m args below meth c H locs lc hh hC hS hl
  refine lv_i2b hh.1 hh.2.1 d ?_ (kk p e s m args below meth c H locs lc hh hC hS hl)
  rw [Int32.toInt8_ofInt]
  refine Int32.toInt_inj.mp ?_
  have h1 : (-128 : Int) ≤ x.bmod 256 := Int.le_bmod (by decide)
  have h2 : x.bmod 256 < 128 := Int.bmod_lt (by decide)
  rw [Int8.toInt_toInt32, Int8.toInt_ofInt, mr_toInt ⟨by omega, by omega⟩]
theorem mr_ushr_k : ∀ k : Fin 32, (Int32.ofInt ((k : Nat) : Int)).toUInt32 &&& Int32.toUInt32 31 = UInt32.ofNat (k : Nat) := by decide +kernel
theorem mr_ushr {x : Int} {k : Nat} (hk : k < 32) : ((Int32.ofInt x).toUInt32 >>> ((Int32.ofInt (k : Int)).toUInt32 &&& Int32.toUInt32 31)).toInt32 = Int32.ofInt ((x % 4294967296) / 2 ^ k) := by
  rw [mr_ushr_k ⟨k, hk⟩]
  obtain ⟨a, ha⟩ : ∃ a : Nat, x % 4294967296 = (a : Int) := ⟨(x % 4294967296).toNat, (Int.toNat_of_nonneg (Int.emod_nonneg _ (by decide))).symm⟩
  have hal : a < 2 ^ 32 := by have := Int.emod_lt_of_pos x (show (0 : Int) < 4294967296 by decide); omega
  apply Int32.toBitVec_inj.mp
  rw [Int32.toBitVec_ofInt]
  apply BitVec.eq_of_toNat_eq
  have e0 : ((2 : Int) ^ k) = (((2 : Nat) ^ k : Nat) : Int) := by simp
  rw [BitVec.toNat_ofInt, ha, e0, ← Int.natCast_ediv, ← Int.natCast_emod, Int.toNat_natCast, Nat.mod_eq_of_lt (Nat.lt_of_le_of_lt (Nat.div_le_self _ _) hal)]
  show ((Int32.ofInt x).toUInt32 >>> UInt32.ofNat k).toNat = _
  rw [UInt32.toNat_shiftRight, Nat.shiftRight_eq_div_pow]
  have h1 : (Int32.ofInt x).toUInt32.toNat = a := by
    show (Int32.ofInt x).toBitVec.toNat = a
    rw [Int32.toBitVec_ofInt, BitVec.toNat_ofInt, show ((2 ^ 32 : Nat) : Int) = 4294967296 from rfl, ha, Int.toNat_natCast]
  have h2 : (UInt32.ofNat k).toNat % 32 = k := by
    rw [UInt32.toNat_ofNat', Nat.mod_eq_of_lt (show k < 2 ^ 32 by omega), Nat.mod_eq_of_lt hk]
  rw [h1, h2]
theorem mr_iushr {x y : Int} (k : Nat) (hk : k < 32) (d : decode cc pc = .ok (.iushr, 1)) (hy : y = (k : Int)) (kk : mr_J l G own cc nL ret rf rl Po (pc + 1) ls (vI ((x % 4294967296) / 2 ^ k) :: st) w) : mr_J l G own cc nL ret rf rl Po pc ls (vI y :: vI x :: st) w := by
  intro p e s m args below meth c H locs lc hh hC hS hl
  subst hy
  exact lv_iushr hh.1 hh.2.1 d (mr_ushr hk) (kk p e s m args below meth c H locs lc hh hC hS hl)
theorem mr_ldc {idx : Nat} {x : Int} (d : decode cc pc = .ok (.ldc idx, 2)) (hc : Cond.constant own idx (Int32.ofInt x) ∈ mr_ws) (kk : mr_J l G own cc nL ret rf rl Po (pc + 2) ls (vI x :: st) w) : mr_J l G own cc nL ret rf rl Po pc ls st w := fun p e s m args below meth c H locs lc hh hC hS hl =>
  lv_ldc hh.1 hh.2.1 hh.2.2.2.2.2.1 (hh.2.2.2.2.2.2.1 _ hc) d (kk p e s m args below meth c H locs lc hh hC hS hl)
theorem mr_ldc2 {idx : Nat} {x : Int} (d : decode cc pc = .ok (.ldc2_w idx, 3)) (hc : Cond.constantLong own idx (Int64.ofInt x) ∈ mr_ws) (kk : mr_J l G own cc nL ret rf rl Po (pc + 3) ls (vL x :: st) w) : mr_J l G own cc nL ret rf rl Po pc ls st w := fun p e s m args below meth c H locs lc hh hC hS hl =>
  lv_ldc2 hh.1 hh.2.1 hh.2.2.2.2.2.1 (hh.2.2.2.2.2.2.1 _ hc) d (kk p e s m args below meth c H locs lc hh hC hS hl)
theorem mr_lconst0 (d : decode cc pc = .ok (.lconst 0, 1)) (kk : mr_J l G own cc nL ret rf rl Po (pc + 1) ls (vL 0 :: st) w) : mr_J l G own cc nL ret rf rl Po pc ls st w := fun p e s m args below meth c H locs lc hh hC hS hl =>
  lv_lconst hh.1 hh.2.1 d rfl (kk p e s m args below meth c H locs lc hh hC hS hl)
theorem mr_ladd {x y : Int} (d : decode cc pc = .ok (.ladd, 1)) (kk : mr_J l G own cc nL ret rf rl Po (pc + 1) ls (vL (x + y) :: st) w) : mr_J l G own cc nL ret rf rl Po pc ls (vL y :: vL x :: st) w := by
  intro p e s m args below meth c H locs lc hh hC hS hl
  have h := kk p e s m args below meth c H locs lc hh hC hS hl
  refine lv_ladd hh.1 hh.2.1 d ?_
  rw [← Int64.ofInt_add]
  exact h
theorem mr_lsub {x y : Int} (d : decode cc pc = .ok (.lsub, 1)) (kk : mr_J l G own cc nL ret rf rl Po (pc + 1) ls (vL (x - y) :: st) w) : mr_J l G own cc nL ret rf rl Po pc ls (vL y :: vL x :: st) w := by
  intro p e s m args below meth c H locs lc hh hC hS hl
  have h := kk p e s m args below meth c H locs lc hh hC hS hl
  refine lv_lsub hh.1 hh.2.1 d ?_
  rw [← Int64.ofInt_sub]
  exact h
theorem mr_lmul {x y : Int} (d : decode cc pc = .ok (.lmul, 1)) (kk : mr_J l G own cc nL ret rf rl Po (pc + 1) ls (vL (x * y) :: st) w) : mr_J l G own cc nL ret rf rl Po pc ls (vL y :: vL x :: st) w := by
  intro p e s m args below meth c H locs lc hh hC hS hl
  have h := kk p e s m args below meth c H locs lc hh hC hS hl
  refine lv_lmul hh.1 hh.2.1 d ?_
  rw [← Int64.ofInt_mul]
  exact h
theorem mr_i2l {x : Int} (d : decode cc pc = .ok (.i2l, 1)) (hx : InR x) (kk : mr_J l G own cc nL ret rf rl Po (pc + 1) ls (vL x :: st) w) : mr_J l G own cc nL ret rf rl Po pc ls (vI x :: st) w := by
  intro p e s m args below meth c H locs lc hh hC hS hl
  exact lv_i2l hh.1 hh.2.1 d (Int32.toInt64_ofInt (by have := hx.1; show (-2147483648 : Int) ≤ x; omega) (by have := hx.2; show x ≤ (2147483647 : Int); omega)) (kk p e s m args below meth c H locs lc hh hC hS hl)
abbrev InL (x : Int) : Prop := -9223372036854775808 ≤ x ∧ x < 9223372036854775808
theorem mr_toL {x : Int} (h : InL x) : (Int64.ofInt x).toInt = x := Int64.toInt_ofInt_of_le (by have := h.1; omega) (by have := h.2; omega)
/-- two longs held against each other: only whether they are the same is kept -/
theorem mr_lcmp {x y : Int} (d : decode cc pc = .ok (.lcmp, 1)) (hx : InL x) (hy : InL y) (kk : ∀ q : Int, (-1 ≤ q ∧ q ≤ 1) → (q = 0 ↔ x = y) → mr_J l G own cc nL ret rf rl Po (pc + 1) ls (vI q :: st) w) : mr_J l G own cc nL ret rf rl Po pc ls (vL y :: vL x :: st) w := by
  intro p e s m args below meth c H locs lc hh hC hS hl
  refine W.lcmp hh.1 hh.2.1 d ?_
  have hlt : Int64.ofInt x < Int64.ofInt y ↔ x < y := by rw [Int64.lt_iff_toInt_lt, mr_toL hx, mr_toL hy]
  have hgt : Int64.ofInt x > Int64.ofInt y ↔ y < x := by
    show Int64.ofInt y < Int64.ofInt x ↔ y < x
    rw [Int64.lt_iff_toInt_lt, mr_toL hx, mr_toL hy]
  have heq : Int64.ofInt x = Int64.ofInt y ↔ x = y := by rw [← Int64.toInt_inj, mr_toL hx, mr_toL hy]
  unfold lg_cmp
  by_cases c1 : y < x
  · rw [if_pos (hgt.mpr c1)]
    exact kk 1 ⟨by decide, by decide⟩ ⟨fun h => by omega, fun h => by omega⟩ p e s m args below meth c H locs lc hh hC hS hl
  · rw [if_neg (fun q => c1 (hgt.mp q))]
    by_cases c2 : x = y
    · rw [if_pos (heq.mpr c2)]
      exact kk 0 ⟨by decide, by decide⟩ ⟨fun _ => c2, fun _ => rfl⟩ p e s m args below meth c H locs lc hh hC hS hl
    · rw [if_neg (fun q => c2 (heq.mp q))]
      exact kk (-1) ⟨by decide, by decide⟩ ⟨fun h => by omega, fun h => absurd h c2⟩ p e s m args below meth c H locs lc hh hC hS hl
theorem mr_tableIn {dflt lo hi : Int} {offs : Array Int} {len : Nat} {x off : Int} {tgt : Nat} (d : decode cc pc = .ok (.tableswitch dflt lo hi offs, len)) (hx : InR x) (h1 : lo ≤ x) (h2 : x ≤ hi) (ho : offs[(x - lo).toNat]? = some off) (ht : (pc : Int) + off = (tgt : Int)) (kk : mr_J l G own cc nL ret rf rl Po tgt ls st w) : mr_J l G own cc nL ret rf rl Po pc ls (vI x :: st) w := by
  intro p e s m args below meth c H locs lc hh hC hS hl
  exact lv_tableIn hh.1 hh.2.1 d (by rw [mr_toInt hx]; omega) (by rw [mr_toInt hx]; omega) (by rw [mr_toInt hx]; exact ho) ht (kk p e s m args below meth c H locs lc hh hC hS hl)
theorem mr_tableOut {dflt lo hi : Int} {offs : Array Int} {len : Nat} {x : Int} {tgt : Nat} (d : decode cc pc = .ok (.tableswitch dflt lo hi offs, len)) (hx : InR x) (h : x < lo ∨ hi < x) (ht : (pc : Int) + dflt = (tgt : Int)) (kk : mr_J l G own cc nL ret rf rl Po tgt ls st w) : mr_J l G own cc nL ret rf rl Po pc ls (vI x :: st) w := by
  intro p e s m args below meth c H locs lc hh hC hS hl
  exact lv_tableOut hh.1 hh.2.1 d (by rw [mr_toInt hx]; exact h) ht (kk p e s m args below meth c H locs lc hh hC hS hl)
theorem mr_lookup {dflt : Int} {ps : Array (Int × Int)} {len : Nat} {x off : Int} {tgt : Nat} (d : decode cc pc = .ok (.lookupswitch dflt ps, len)) (hx : InR x) (hp : (ps.toList.zip (ps.toList.drop 1)).all (fun (a, next) => a.1 < next.1) = true) (ho : Op.lookupswitch.offset ps.toList dflt x = off) (ht : (pc : Int) + off = (tgt : Int)) (kk : mr_J l G own cc nL ret rf rl Po tgt ls st w) : mr_J l G own cc nL ret rf rl Po pc ls (vI x :: st) w := by
  intro p e s m args below meth c H locs lc hh hC hS hl
  exact lv_lookup hh.1 hh.2.1 d hp (by rw [mr_toInt hx]; exact ho) ht (kk p e s m args below meth c H locs lc hh hC hS hl)
end JC
