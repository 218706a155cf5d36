theorem mr_lk {w : mr_Wd} {a b : Nat} {e e' : mr_AE} (h : w b = e) (hne : b ≠ a) : mr_up w a e' b = e := (mr_up_ne w e' hne).trans h
theorem mr_up_up (w : mr_Wd) (a : Nat) (e e' : mr_AE) : mr_up (mr_up w a e) a e' = mr_up w a e' := by
  funext j
  by_cases h : j = a <;> simp [mr_up, h]
theorem mr_up_self {w : mr_Wd} {a : Nat} {e : mr_AE} (h : w a = e) : mr_up w a e = w := by
  funext j
  by_cases hj : j = a
  · subst hj; rw [mr_up_same, h]
  · rw [mr_up_ne w e hj]
theorem mr_up_comm (w : mr_Wd) {a b : Nat} (h : a ≠ b) (e e' : mr_AE) : mr_up (mr_up w a e) b e' = mr_up (mr_up w b e') a e := by
  funext j
  by_cases h1 : j = a
  · subst h1; rw [mr_up_ne _ _ h, mr_up_same, mr_up_same]
  · by_cases h2 : j = b
    · subst h2; rw [mr_up_same, mr_up_ne _ _ h1, mr_up_same]
    · rw [mr_up_ne _ _ h2, mr_up_ne _ _ h1, mr_up_ne _ _ h1, mr_up_ne _ _ h2]
theorem mr_fs_same (f : Nat → Int) (i : Nat) (x : Int) : mr_fs f i x i = x := if_pos rfl
theorem mr_fs_ne (f : Nat → Int) {i j : Nat} (x : Int) (h : j ≠ i) : mr_fs f i x j = f j := if_neg h
section JM
variable {l : Launch} {G : mr_G} {own : String} {cc : ByteArray} {nL : Nat} {ret : Option FieldType} {rf rl : Nat} {Po : Option mr_AV → mr_Wd → Prop} {pc : Nat} {ls : List (Option mr_AV)} {st : List mr_AV} {w : mr_Wd}
theorem mr_xor_sign {x y : Int} (hx : InR x) (hy : InR y) : (Int32.ofInt x ^^^ Int32.ofInt y).toInt < 0 ↔ ¬ (x < 0 ↔ y < 0) := by
  have hm : ∀ b : BitVec 32, b.toInt < 0 ↔ b.msb = true := fun b => by rw [BitVec.msb_eq_toInt]; simp
  have h1 : (Int32.ofInt x ^^^ Int32.ofInt y).toInt = ((Int32.ofInt x).toBitVec ^^^ (Int32.ofInt y).toBitVec).toInt := rfl
  have h2 : x < 0 ↔ (Int32.ofInt x).toBitVec.msb = true := by rw [← hm]; show x < 0 ↔ (Int32.ofInt x).toInt < 0; rw [mr_toInt hx]
  have h3 : y < 0 ↔ (Int32.ofInt y).toBitVec.msb = true := by rw [← hm]; show y < 0 ↔ (Int32.ofInt y).toInt < 0; rw [mr_toInt hy]
  rw [h1, hm, BitVec.msb_xor, h2, h3]
  cases (Int32.ofInt x).toBitVec.msb <;> cases (Int32.ofInt y).toBitVec.msb <;> simp
theorem mr_ixor {x y : Int} (d : decode cc pc = .ok (.ixor, 1)) (hx : InR x) (hy : InR y) (kk : ∀ q : Int, InR q → (q < 0 ↔ ¬ (x < 0 ↔ y < 0)) → mr_J l G own cc nL ret rf rl Po (pc + 1) ls (vI q :: st) w) : mr_J l G own cc nL ret rf rl Po pc ls (vI y :: vI x :: st) w := by
  intro p e s m args below meth c H locs lc hh hC hS hl
  have hr : InR (Int32.ofInt x ^^^ Int32.ofInt y).toInt := ⟨Int32.minValue_le_toInt _, by have := Int32.toInt_lt (Int32.ofInt x ^^^ Int32.ofInt y); omega⟩
  have h := kk _ hr (mr_xor_sign hx hy) p e s m args below meth c H locs lc hh hC hS hl
  refine lv_ixor hh.1 hh.2.1 d ?_
  have e1 : (mr_cv G (vI (Int32.ofInt x ^^^ Int32.ofInt y).toInt)) = .int (Int32.ofInt x ^^^ Int32.ofInt y) := by
    show Value.int (Int32.ofInt _) = _
    rw [Int32.ofInt_toInt]
  rw [List.map_cons, e1] at h
  exact h
/-- a whole array copied, at the machine -/
theorem mr_copyW {p : Program} {e : Env} {s : State} {m : MethodId} {args : Array Value} {below : List Frame} {meth : Method} {c : Code} {H : Heap} {locs : List Loc} {lc : Array Slot} {Q : State → Prop} {rest : List Value} {a0 a N index : Nat} {f g : Nat → Int} (hh : mr_Hy p s m args meth c G own cc nL ret) (hl : lc.size = nL)
    (hl0 : Cond.methodLink own index arraycopyName ∈ mr_ws) (hn0 : Cond.native arraycopyName ∈ mr_ws) (hs0 : Cond.static arraycopyName ∈ mr_ws) (hi0 : Cond.initialized "java/lang/System" ∈ mr_ws)
    (hc0 : H[a0]? = some (arrV (G.2.1 0) N (fun j => .int (Int32.ofInt (f j))))) (hc1 : H[a]? = some (arrV (G.2.1 0) N (fun j => .int (Int32.ofInt (g j))))) (hN : N < 2147483648) (hrest : (rest.map fun v => v.category).sum + 18 ≤ rl) (hf : 1 ≤ rf) (d : decode cc pc = .ok (.invokestatic index, 3)) (hS : va_S (mr_A G) s.heap H locs) (ha : mr_A G a)
    (kk : ∀ (H1 : Heap) (locs1 : List Loc), H1[a]? = some (arrV (G.2.1 0) N (fun j => .int (Int32.ofInt (f j)))) → (∀ q, q ≠ a → H1[q]? = H[q]?) → va_S (mr_A G) s.heap H1 locs1 → W p l e { frames := rf, cells := 0, slots := 0, locals := rl } s m args below meth c H1 locs1 0 0 Q (F0 m (pc + 3) lc rest)) :
    W p l e { frames := rf, cells := 0, slots := 0, locals := rl } s m args below meth c H locs 0 0 Q (F0 m pc lc (.int (Int32.ofInt (N : Int)) :: .int (Int32.ofInt 0) :: .ref a :: .int (Int32.ofInt 0) :: .ref a0 :: rest)) := by
  obtain ⟨hx, hb, hml, hr, hlk, hown, hts, hK⟩ := id hh
  have hNn : (Int32.ofInt (N : Int)).toNatClampNeg = N := by rw [Int32.toNatClampNeg_ofInt_of_le (by omega) (by omega)]; omega
  have hNi : (Int32.ofInt (N : Int)).toInt = N := mr_toInt ⟨by omega, by omega⟩
  have h0i : (Int32.ofInt 0).toInt = 0 := rfl
  intro T hT X
  obtain ⟨-, k0, hk0, cm0, hkk0⟩ := (hK.1.2 0 _ rfl).1 N (fun j => .int (Int32.ofInt (f j)))
  obtain ⟨-, k1, hk1, cm1, hkk1⟩ := (hK.1.2 0 _ rfl).1 N (fun j => .int (Int32.ofInt (g j)))
  obtain ⟨vm', X', step⟩ := X.arraycopy hx hown (hts _ hl0) (hts _ hn0) (hts _ hs0) (hts _ hi0) (src := a0) (dst := a) (srcPos := Int32.ofInt 0) (destPos := Int32.ofInt 0) (n := Int32.ofInt (N : Int)) (by rw [hT]; exact hc0) (by rw [hT]; exact hc1)
    (fun _ h => by cases h) (fun _ h => by cases h) (fun h => by cases h) (fun h => by cases h) hk0 hk1 hkk0 hkk1 rfl (by decide) (by decide) (by rw [mr_z, mr_lt ⟨by omega, by omega⟩ mr_in0]; omega)
    (by rw [h0i, hNi, arrV_size]; omega) (by rw [h0i, hNi, arrV_size]; omega)
    (fun vm₁ _ i hi => by
      rw [hNn] at hi
      have e9 : (arrV (G.2.1 0) N (fun j => Value.int (Int32.ofInt (f j)))).slots.getD ((Int32.ofInt 0).toNatClampNeg + i) .null = .int (Int32.ofInt (f i)) := by
        rw [Array.getD_eq_getD_getElem?, show (Int32.ofInt 0).toNatClampNeg + i = i from Nat.zero_add i, arrV_read _ _ hi]
        rfl
      rw [e9]
      exact ⟨rfl, trivial⟩)
    (g := F0 m pc lc (.int (Int32.ofInt (N : Int)) :: .int (Int32.ofInt 0) :: .ref a :: .int (Int32.ofInt 0) :: .ref a0 :: rest)) rfl (by rw [hml]; exact hl) (rest := rest) rfl (by rw [hb]; exact d) hf (by show 2 * 0 + _ + (7 + 11) ≤ rl; omega)
  have e1 : copied (arrV (G.2.1 0) N (fun j => Value.int (Int32.ofInt (f j)))) (arrV (G.2.1 0) N (fun j => Value.int (Int32.ofInt (g j)))) (Int32.ofInt 0) (Int32.ofInt 0) (Int32.ofInt (N : Int)) = arrV (G.2.1 0) N (fun j => .int (Int32.ofInt (f j))) := by
    have e2 := va_copied (fun z : Int32 => Value.int z) (G.2.1 0) (G.2.1 0) (n0 := N) (n1 := N) (sp := 0) (dp := 0) (n := N) (fun j => Int32.ofInt (f j)) (fun j => Int32.ofInt (g j)) (by omega)
    have e3 : copied (arrV (G.2.1 0) N (fun j => Value.int (Int32.ofInt (f j)))) (arrV (G.2.1 0) N (fun j => Value.int (Int32.ofInt (g j)))) (Int32.ofInt 0) (Int32.ofInt 0) (Int32.ofInt (N : Int)) = (arrV (G.2.1 0) N (fun j => Value.int (Int32.ofInt (g j)))).storeRun 0 ((arrV (G.2.1 0) N (fun j => Value.int (Int32.ofInt (f j)))).stretch 0 N) := by
      unfold copied
      rw [hNn]
      rfl
    rw [e3, e2]
    unfold arrV
    congr 2
    funext j
    have hj := j.2
    simp [va_cpy, hj]
  rw [e1] at X' step
  have hla : a < H.size := (Array.getElem?_eq_some_iff.mp hc1).1
  have hheap : ((T.setVm vm').setCell a (arrV (G.2.1 0) N (fun j => Value.int (Int32.ofInt (f j))))).heap = H.setIfInBounds a (arrV (G.2.1 0) N (fun j => Value.int (Int32.ofInt (f j)))) := by rw [← hT]; rfl
  have oq : ∀ q : Nat, q ≠ a → (H.setIfInBounds a (arrV (G.2.1 0) N (fun j => Value.int (Int32.ofInt (f j)))))[q]? = H[q]? := fun q hq => by simp [Array.getElem?_setIfInBounds, Ne.symm hq]
  obtain ⟨t, a1, b1⟩ := kk _ _ (show (H.setIfInBounds a _)[a]? = some _ by simp [Array.getElem?_setIfInBounds, hla]) oq ⟨by simp; exact hS.1, fun q g1 g2 => by
      rw [oq q (fun e => g2 (by rw [e]; exact ha))]
      exact hS.2.1 q g1 g2, fun q hq => by
      rcases List.mem_append.mp hq with h | h
      · exact hS.2.2 q h
      · obtain ⟨z, -, hz⟩ := List.mem_map.mp h
        rw [← hz]
        exact ha⟩ _ hheap X'
  exact ⟨t, step t a1, b1⟩
theorem mr_copyAM {a b n r index : Nat} {N : Nat} {f : Nat → Int} {F : Nat → Nat → Int} (d : decode cc pc = .ok (.invokestatic index, 3)) (hl0 : Cond.methodLink own index arraycopyName ∈ mr_ws) (hn0 : Cond.native arraycopyName ∈ mr_ws) (hs0 : Cond.static arraycopyName ∈ mr_ws) (hi0 : Cond.initialized "java/lang/System" ∈ mr_ws) (hR : 1 ≤ rf ∧ (st.map mr_cat).sum + 18 ≤ rl)
    (ha : w a = eA 0 N f) (hb : w b = eM n N F) (hr0 : r < n) (hN : N < 2147483648) (kk : mr_J l G own cc nL ret rf rl Po (pc + 3) ls st (mr_up w b (eM n N (fun q => if q = r then f else F q)))) : mr_J l G own cc nL ret rf rl Po pc ls (vI N :: vI 0 :: vR b (r + 1) :: vI 0 :: vR a 0 :: st) w := by
  intro p e s m args below meth c H locs lc hh hC hS hl
  have hK := hh.2.2.2.2.2.2.2
  have h1 := hC a
  have h2 := hC b
  rw [ha] at h1
  rw [hb] at h2
  refine mr_copyW hh hl.1 hl0 hn0 hs0 hi0 h1 (h2.2 r hr0) hN (by rw [mr_cats]; exact hR.2) hR.1 d hS (hK.2.1.2 _ _) fun H1 locs1 e1 oq hS1 => ?_
  have hne : ∀ i j : Nat, i ≠ j → mr_ad G b i ≠ mr_ad G b j := fun i j hij q => hij (hK.2.1.1 _ _ _ _ q).2
  refine kk p e s m args below meth c H1 locs1 lc hh (hC.set (k := b) (i := r + 1) hK.2.1 oq ⟨va_at.kept h2.1 (oq _ (hne _ _ (by omega))), fun j hj => ?_⟩) hS1 hl
  by_cases hjr : j = r
  · subst hjr
    show H1[mr_ad G b (j + 1)]? = some (arrV (G.2.1 0) N (fun q => .int (Int32.ofInt ((if j = j then f else F j) q))))
    rw [if_pos rfl]
    exact e1
  · have := va_at.kept (h2.2 j hj) (oq _ (hne _ _ (by omega)))
    simpa [hjr] using this
theorem mr_copyMA {a b n r index : Nat} {N : Nat} {f : Nat → Int} {F : Nat → Nat → Int} (d : decode cc pc = .ok (.invokestatic index, 3)) (hl0 : Cond.methodLink own index arraycopyName ∈ mr_ws) (hn0 : Cond.native arraycopyName ∈ mr_ws) (hs0 : Cond.static arraycopyName ∈ mr_ws) (hi0 : Cond.initialized "java/lang/System" ∈ mr_ws) (hR : 1 ≤ rf ∧ (st.map mr_cat).sum + 18 ≤ rl)
    (ha : w a = eA 0 N f) (hb : w b = eM n N F) (hr0 : r < n) (hN : N < 2147483648) (kk : mr_J l G own cc nL ret rf rl Po (pc + 3) ls st (mr_up w a (eA 0 N (F r)))) : mr_J l G own cc nL ret rf rl Po pc ls (vI N :: vI 0 :: vR a 0 :: vI 0 :: vR b (r + 1) :: st) w := by
  intro p e s m args below meth c H locs lc hh hC hS hl
  have hK := hh.2.2.2.2.2.2.2
  have h1 := hC a
  have h2 := hC b
  rw [ha] at h1
  rw [hb] at h2
  refine mr_copyW hh hl.1 hl0 hn0 hs0 hi0 (h2.2 r hr0) h1 hN (by rw [mr_cats]; exact hR.2) hR.1 d hS (hK.2.1.2 _ _) fun H1 locs1 e1 oq hS1 => ?_
  exact kk p e s m args below meth c H1 locs1 lc hh (hC.set (k := a) (i := 0) hK.2.1 oq e1) hS1 hl
theorem mr_copyAA {a b index : Nat} {N : Nat} {f g : Nat → Int} (d : decode cc pc = .ok (.invokestatic index, 3)) (hl0 : Cond.methodLink own index arraycopyName ∈ mr_ws) (hn0 : Cond.native arraycopyName ∈ mr_ws) (hs0 : Cond.static arraycopyName ∈ mr_ws) (hi0 : Cond.initialized "java/lang/System" ∈ mr_ws) (hR : 1 ≤ rf ∧ (st.map mr_cat).sum + 18 ≤ rl)
    (ha : w a = eA 0 N f) (hb : w b = eA 0 N g) (hN : N < 2147483648) (kk : mr_J l G own cc nL ret rf rl Po (pc + 3) ls st (mr_up w a (eA 0 N g))) : mr_J l G own cc nL ret rf rl Po pc ls (vI N :: vI 0 :: vR a 0 :: vI 0 :: vR b 0 :: st) w := by
  intro p e s m args below meth c H locs lc hh hC hS hl
  have hK := hh.2.2.2.2.2.2.2
  have h1 := hC a
  have h2 := hC b
  rw [ha] at h1
  rw [hb] at h2
  refine mr_copyW hh hl.1 hl0 hn0 hs0 hi0 h2 h1 hN (by rw [mr_cats]; exact hR.2) hR.1 d hS (hK.2.1.2 _ _) fun H1 locs1 e1 oq hS1 => ?_
  exact kk p e s m args below meth c H1 locs1 lc hh (hC.set (k := a) (i := 0) hK.2.1 oq e1) hS1 hl
end JM
theorem mr_cw {l : Launch} {G : mr_G} {own : String} {cc : ByteArray} {nL : Nat} {ret : Option FieldType} {rf rl : Nat} {Po : Option mr_AV → mr_Wd → Prop} {pc : Nat} {ls : List (Option mr_AV)} {st : List mr_AV} {w w' : mr_Wd} (h : w = w') (k : mr_J l G own cc nL ret rf rl Po pc ls st w') : mr_J l G own cc nL ret rf rl Po pc ls st w := h ▸ k
