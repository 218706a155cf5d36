/-! CONSTRUCTORS: the size of the heap is known, a new cell's address is that size -/
def mr_E (p : Program) (l : Launch) (e : Env) (R : Room) (s : State) (m : MethodId) (args : Array Value) (below : List Frame) (meth : Method) (c : Code) (G : mr_G) (nL nc ns : Nat) (Q : State → Prop) (h pc : Nat) (ls : List (Option mr_AV)) (st : List mr_AV) (w : mr_Wd) : Prop :=
  ∀ (H : Heap) (locs : List Loc) (lc : Array Slot), H.size = h → mr_C G w H → va_S (mr_A G) s.heap H locs → mr_ls G nL ls lc → W p l e R s m args below meth c H locs nc ns Q (F0 m pc lc (st.map (mr_cv G)))
theorem mr_C.born {G : mr_G} {w : mr_Wd} {H H1 : Heap} {k : Nat} {e : mr_AE} (h : mr_C G w H) (hq : ∀ q : Nat, q < H.size → H1[q]? = H[q]?) (hn : mr_ce G k e H1) : mr_C G (mr_up w k e) H1 := by
  intro j
  by_cases hj : j = k
  · subst hj
    rw [mr_up_same]
    exact hn
  · rw [mr_up_ne w e hj]
    exact h.grow hq j
theorem mr_S.born {G : mr_G} {H0 H H1 : Heap} {locs : List Loc} (hS : va_S (mr_A G) H0 H locs) (hz : H.size ≤ H1.size) (hq : ∀ q : Nat, q < H.size → H1[q]? = H[q]?) : va_S (mr_A G) H0 H1 locs := ⟨Nat.le_trans hS.1 hz, fun x h1 h2 => (hq x (Nat.lt_of_lt_of_le h1 hS.1)).trans (hS.2.1 x h1 h2), hS.2.2⟩
section NW1
variable {p : Program} {l : Launch} {e : Env} {R : Room} {s : State} {m : MethodId} {args : Array Value} {below : List Frame} {meth : Method} {c : Code} {G : mr_G} {own : String} {cc : ByteArray} {nL : Nat} {ret : Option FieldType} {nc ns h : Nat} {Q : State → Prop} {pc : Nat} {ls : List (Option mr_AV)} {st : List mr_AV} {w : mr_Wd}
theorem mrE_iconst {n : Int} (hh : mr_Hy p s m args meth c G own cc nL ret) (d : decode cc pc = .ok (.iconst n, 1)) (k : mr_E p l e R s m args below meth c G nL nc ns Q h (pc + 1) ls (vI n :: st) w) : mr_E p l e R s m args below meth c G nL nc ns Q h pc ls st w := by
  intro H locs lc hz hC hS hl
  exact lv_iconst hh.1 hh.2.1 d rfl (k H locs lc hz hC hS hl)
theorem mrE_bipush {n : Int} (hh : mr_Hy p s m args meth c G own cc nL ret) (d : decode cc pc = .ok (.bipush n, 2)) (hn : (Int8.ofInt n).toInt32 = Int32.ofInt n) (k : mr_E p l e R s m args below meth c G nL nc ns Q h (pc + 2) ls (vI n :: st) w) : mr_E p l e R s m args below meth c G nL nc ns Q h pc ls st w := by
  intro H locs lc hz hC hS hl
  exact lv_bipush hh.1 hh.2.1 d hn (k H locs lc hz hC hS hl)
theorem mrE_sipush {n : Int} (hh : mr_Hy p s m args meth c G own cc nL ret) (d : decode cc pc = .ok (.sipush n, 3)) (hn : (Int16.ofInt n).toInt32 = Int32.ofInt n) (k : mr_E p l e R s m args below meth c G nL nc ns Q h (pc + 3) ls (vI n :: st) w) : mr_E p l e R s m args below meth c G nL nc ns Q h pc ls st w := by
  intro H locs lc hz hC hS hl
  exact lv_sipush hh.1 hh.2.1 d hn (k H locs lc hz hC hS hl)
theorem mrE_aload_n {i : Fin 4} {a b : Nat} (hh : mr_Hy p s m args meth c G own cc nL ret) (d : decode cc pc = .ok (.aload_n i, 1)) (hi : ls[(i : Nat)]? = some (some (vR a b))) (k : mr_E p l e R s m args below meth c G nL nc ns Q h (pc + 1) ls (vR a b :: st) w) : mr_E p l e R s m args below meth c G nL nc ns Q h pc ls st w := by
  intro H locs lc hz hC hS hl
  exact lv_aload_n hh.1 hh.2.1 d rfl (hl.2.2 _ _ hi) (k H locs lc hz hC hS hl)
theorem mrE_dup {v : mr_AV} (hh : mr_Hy p s m args meth c G own cc nL ret) (d : decode cc pc = .ok (.dup, 1)) (hc : (mr_cv G v).category = 1) (k : mr_E p l e R s m args below meth c G nL nc ns Q h (pc + 1) ls (v :: v :: st) w) : mr_E p l e R s m args below meth c G nL nc ns Q h pc ls (v :: st) w := by
  intro H locs lc hz hC hS hl
  exact lv_dup hh.1 hh.2.1 d hc (k H locs lc hz hC hS hl)
theorem mrE_objInit {idx a b : Nat} (hh : mr_Hy p s m args meth c G own cc nL ret) (d : decode cc pc = .ok (.invokespecial idx, 3)) (hl0 : Cond.methodLink own idx Lib.objectInit ∈ mr_ws) (hi0 : Cond.instanceMethod Lib.objectInit ∈ mr_ws) (hc0 : Cond.code Lib.objectInit ⟨#[0xb1]⟩ 1 none ∈ mr_ws) (hR : 1 ≤ R.frames ∧ 20 ≤ R.locals) (hcat : (st.map mr_cat).sum ≤ 8) (k : mr_E p l e R s m args below meth c G nL nc ns Q h (pc + 3) ls st w) : mr_E p l e R s m args below meth c G nL nc ns Q h pc ls (vR a b :: st) w := by
  intro H locs lc hz hC hS hl
  obtain ⟨hx, hb, hml, hr, hlk, hown, hts, hK⟩ := id hh
  refine W.objInit hx hb hown (hts _ hl0) (hts _ hi0) (hts _ hc0) rfl (hl.1.trans hml.symm) rfl d hR.1 (Nat.le_trans (Nat.add_le_add_right (lv_room (by rw [mr_cats]; exact hcat)) 12) hR.2) ?_
  exact k H locs lc hz hC hS hl
theorem mrE_new {idx ci N kk : Nat} {C : String} {T : u_T} {ty : Nat → FieldType} {fs : List mr_AV} (hh : mr_Hy p s m args meth c G own cc nL ret) (d : decode cc pc = .ok (.new idx, 3)) (hc : vwCl[ci]? = some (C, T, N)) (hin : ∀ w ∈ u_ws C T N, w ∈ mr_ws) (hty : ∀ k, k < N → parseFieldDescriptor (T k).2.2.1 = some (ty k)) (hcl : Cond.classLink own idx C ∈ mr_ws) (hinst : Cond.instantiable C N ∈ mr_ws) (hini : Cond.initialized C ∈ mr_ws) (hfs : ∀ j, j < N → defaultValue (ty j) = vp_V (fs.map (mr_cv G)) j) (had : mr_ad G kk 0 = h) (hcs : nc + 1 ≤ R.cells ∧ ns + N ≤ R.slots)
    (k : mr_E p l e R s m args below meth c G nL (nc + 1) (ns + N) Q (h + 1) (pc + 3) ls (vR kk 0 :: st) (mr_up w kk (eO ci fs))) : mr_E p l e R s m args below meth c G nL nc ns Q h pc ls st w := by
  intro H locs lc hz hC hS hl
  obtain ⟨hx, hb, hml, hr, hlk, hown, hts, hK⟩ := id hh
  have hKn := hK.1.1 ci _ hc
  refine W.newcK hx hb hown (hts _ hcl) (hts _ hinst) (hts _ hini) rfl d hcs.1 hcs.2 hKn.2.1 hz fun H1 kC hkC e1 z1 o1 => ?_
  have ho : ∀ q : Nat, q < H.size → H1[q]? = H[q]? := fun q hq => o1 q (by omega)
  have hk := k H1 locs lc z1 (hC.born ho (k := kk) (e := eO ci fs) (show va_at G.1 vwCl (mr_ad G kk 0, .inr (ci, fs.map (mr_cv G))) H1 from by rw [had]; exact ⟨_, hc, (u_born ty hts hin hKn hkC e1 hty).to hfs⟩)) (mr_S.born hS (by omega) ho) hl
  have e9 : (vR kk 0 :: st).map (mr_cv G) = .ref h :: st.map (mr_cv G) := by rw [← had]; rfl
  rw [e9] at hk
  exact hk
theorem mrE_ret (hh : mr_Hy p s m args meth c G own cc nL ret) {Po : Option mr_AV → mr_Wd → Prop} {mc ms h2 : Nat} (hr0 : ret = none) (d : decode cc pc = .ok (.return_, 1)) (hc : nc ≤ mc ∧ ns ≤ ms) (hh2 : h = h2) (k : Po none w) : mr_E p l e R s m args below meth c G nL nc ns (MQ below (fun a st o t => mr_Q G Po a st o t ∧ t.heap.size = h2) args s mc ms (mr_A G)) h pc ls [] w := by
  intro H locs lc hz hC hS hl
  obtain ⟨hx, hb, hml, hr, hlk, hown, hts, hK⟩ := id hh
  refine W.widen (k := mc) (n := ms) hc.1 hc.2 ?_
  exact W.vret hx hb (hr.trans hr0) (fun t ht _ => ⟨⟨⟨none, w, rfl, k, by rw [ht]; exact hC⟩, mr_F hS ht⟩, by rw [ht, hz, hh2]⟩) hS.2.2 d hlk
end NW1
