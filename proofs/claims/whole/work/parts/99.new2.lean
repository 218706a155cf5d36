section NW2
variable {p : Program} {l : Launch} {e : Env} {R : Room} {s : State} {m : MethodId} {args : Array Value} {below : List Frame} {meth : Method} {c : Code} {G : mr_G} {own : String} {cc : ByteArray} {nL : Nat} {ret : Option FieldType} {nc ns h : Nat} {Q : State → Prop} {pc : Nat} {ls : List (Option mr_AV)} {st : List mr_AV} {w : mr_Wd}
theorem mrE_newa_int {kk N : Nat} {n : Int} (hh : mr_Hy p s m args meth c G own cc nL ret) (d : decode cc pc = .ok (.newarray .int, 2)) (harr : Cond.arrayClass .int ∈ mr_ws) (hn : n = (N : Int)) (hN : N ≤ 27000) (had : mr_ad G kk 0 = h) (hcs : nc + 1 ≤ R.cells ∧ ns + N ≤ R.slots)
    (k : mr_E p l e R s m args below meth c G nL (nc + 1) (ns + N) Q (h + 1) (pc + 2) ls (vR kk 0 :: st) (mr_up w kk (eA 0 N (fun _ => 0)))) : mr_E p l e R s m args below meth c G nL nc ns Q h pc ls (vI n :: st) w := by
  intro H locs lc hz hC hS hl
  obtain ⟨hx, hb, hml, hr, hlk, hown, hts, hK⟩ := id hh
  subst hn
  have e0 : (Int32.ofInt (N : Int)).toNatClampNeg = N := by
    rw [Int32.toNatClampNeg_ofInt_of_le (by omega) (by omega)]
    exact Int.toNat_natCast N
  have hneg : ¬ Int32.ofInt (N : Int) < 0 := by
    rw [mr_z, mr_lt ⟨by omega, by omega⟩ mr_in0]
    omega
  refine va_newaK hx hb (atype := .int) (hts _ harr) rfl d rfl hneg e0 (Nat.le_trans (Nat.mul_le_mul_right _ hN) (by decide)) hcs.1 hcs.2 hz fun H1 cA e1 z1 o1 hAr hNm => ?_
  have ho : ∀ q : Nat, q < H.size → H1[q]? = H[q]? := fun q hq => o1 q (by omega)
  have hA9 := (hK.1.2 0 _ rfl).2
  have hA : G.2.1 0 = cA := Option.some.inj (Eq.trans (Eq.symm (show s.vm.findClass ("[" ++ (newarray.typeOf .int).toString) = some (G.2.1 0) from hA9)) hNm)
  have hk := k H1 locs lc z1 (hC.born ho (k := kk) (e := eA 0 N (fun _ => 0)) (show H1[mr_ad G kk 0]? = some (arrV (G.2.1 0) N (fun _ => .int (Int32.ofInt 0))) from by rw [had, hA]; exact e1)) (mr_S.born hS (by omega) ho) hl
  have e9 : (vR kk 0 :: st).map (mr_cv G) = .ref h :: st.map (mr_cv G) := by rw [← had]; rfl
  rw [e9] at hk
  exact hk
theorem mrE_newa_boolean {kk N : Nat} {n : Int} (hh : mr_Hy p s m args meth c G own cc nL ret) (d : decode cc pc = .ok (.newarray .boolean, 2)) (harr : Cond.arrayClass .boolean ∈ mr_ws) (hn : n = (N : Int)) (hN : N ≤ 27000) (had : mr_ad G kk 0 = h) (hcs : nc + 1 ≤ R.cells ∧ ns + N ≤ R.slots)
    (k : mr_E p l e R s m args below meth c G nL (nc + 1) (ns + N) Q (h + 1) (pc + 2) ls (vR kk 0 :: st) (mr_up w kk (eA 1 N (fun _ => 0)))) : mr_E p l e R s m args below meth c G nL nc ns Q h pc ls (vI n :: st) w := by
  intro H locs lc hz hC hS hl
  obtain ⟨hx, hb, hml, hr, hlk, hown, hts, hK⟩ := id hh
  subst hn
  have e0 : (Int32.ofInt (N : Int)).toNatClampNeg = N := by
    rw [Int32.toNatClampNeg_ofInt_of_le (by omega) (by omega)]
    exact Int.toNat_natCast N
  have hneg : ¬ Int32.ofInt (N : Int) < 0 := by
    rw [mr_z, mr_lt ⟨by omega, by omega⟩ mr_in0]
    omega
  refine va_newaK hx hb (atype := .boolean) (hts _ harr) rfl d rfl hneg e0 (Nat.le_trans (Nat.mul_le_mul_right _ hN) (by decide)) hcs.1 hcs.2 hz fun H1 cA e1 z1 o1 hAr hNm => ?_
  have ho : ∀ q : Nat, q < H.size → H1[q]? = H[q]? := fun q hq => o1 q (by omega)
  have hA9 := (hK.1.2 1 _ rfl).2
  have hA : G.2.1 1 = cA := Option.some.inj (Eq.trans (Eq.symm (show s.vm.findClass ("[" ++ (newarray.typeOf .boolean).toString) = some (G.2.1 1) from hA9)) hNm)
  have hk := k H1 locs lc z1 (hC.born ho (k := kk) (e := eA 1 N (fun _ => 0)) (show H1[mr_ad G kk 0]? = some (arrV (G.2.1 1) N (fun _ => .int (Int32.ofInt 0))) from by rw [had, hA]; exact e1)) (mr_S.born hS (by omega) ho) hl
  have e9 : (vR kk 0 :: st).map (mr_cv G) = .ref h :: st.map (mr_cv G) := by rw [← had]; rfl
  rw [e9] at hk
  exact hk
theorem mrE_newa_byte {kk N : Nat} {n : Int} (hh : mr_Hy p s m args meth c G own cc nL ret) (d : decode cc pc = .ok (.newarray .byte, 2)) (harr : Cond.arrayClass .byte ∈ mr_ws) (hn : n = (N : Int)) (hN : N ≤ 27000) (had : mr_ad G kk 0 = h) (hcs : nc + 1 ≤ R.cells ∧ ns + N ≤ R.slots)
    (k : mr_E p l e R s m args below meth c G nL (nc + 1) (ns + N) Q (h + 1) (pc + 2) ls (vR kk 0 :: st) (mr_up w kk (eA 2 N (fun _ => 0)))) : mr_E p l e R s m args below meth c G nL nc ns Q h pc ls (vI n :: st) w := by
  intro H locs lc hz hC hS hl
  obtain ⟨hx, hb, hml, hr, hlk, hown, hts, hK⟩ := id hh
  subst hn
  have e0 : (Int32.ofInt (N : Int)).toNatClampNeg = N := by
    rw [Int32.toNatClampNeg_ofInt_of_le (by omega) (by omega)]
    exact Int.toNat_natCast N
  have hneg : ¬ Int32.ofInt (N : Int) < 0 := by
    rw [mr_z, mr_lt ⟨by omega, by omega⟩ mr_in0]
    omega
  refine va_newaK hx hb (atype := .byte) (hts _ harr) rfl d rfl hneg e0 (Nat.le_trans (Nat.mul_le_mul_right _ hN) (by decide)) hcs.1 hcs.2 hz fun H1 cA e1 z1 o1 hAr hNm => ?_
  have ho : ∀ q : Nat, q < H.size → H1[q]? = H[q]? := fun q hq => o1 q (by omega)
  have hA9 := (hK.1.2 2 _ rfl).2
  have hA : G.2.1 2 = cA := Option.some.inj (Eq.trans (Eq.symm (show s.vm.findClass ("[" ++ (newarray.typeOf .byte).toString) = some (G.2.1 2) from hA9)) hNm)
  have hk := k H1 locs lc z1 (hC.born ho (k := kk) (e := eA 2 N (fun _ => 0)) (show H1[mr_ad G kk 0]? = some (arrV (G.2.1 2) N (fun _ => .int (Int32.ofInt 0))) from by rw [had, hA]; exact e1)) (mr_S.born hS (by omega) ho) hl
  have e9 : (vR kk 0 :: st).map (mr_cv G) = .ref h :: st.map (mr_cv G) := by rw [← had]; rfl
  rw [e9] at hk
  exact hk
theorem mrE_newa_long {kk N : Nat} {n : Int} (hh : mr_Hy p s m args meth c G own cc nL ret) (d : decode cc pc = .ok (.newarray .long, 2)) (harr : Cond.arrayClass .long ∈ mr_ws) (hn : n = (N : Int)) (hN : N ≤ 27000) (had : mr_ad G kk 0 = h) (hcs : nc + 1 ≤ R.cells ∧ ns + N ≤ R.slots)
    (k : mr_E p l e R s m args below meth c G nL (nc + 1) (ns + N) Q (h + 1) (pc + 2) ls (vR kk 0 :: st) (mr_up w kk (eA 3 N (fun _ => 0)))) : mr_E p l e R s m args below meth c G nL nc ns Q h pc ls (vI n :: st) w := by
  intro H locs lc hz hC hS hl
  obtain ⟨hx, hb, hml, hr, hlk, hown, hts, hK⟩ := id hh
  subst hn
  have e0 : (Int32.ofInt (N : Int)).toNatClampNeg = N := by
    rw [Int32.toNatClampNeg_ofInt_of_le (by omega) (by omega)]
    exact Int.toNat_natCast N
  have hneg : ¬ Int32.ofInt (N : Int) < 0 := by
    rw [mr_z, mr_lt ⟨by omega, by omega⟩ mr_in0]
    omega
  refine va_newaK hx hb (atype := .long) (hts _ harr) rfl d rfl hneg e0 (Nat.le_trans (Nat.mul_le_mul_right _ hN) (by decide)) hcs.1 hcs.2 hz fun H1 cA e1 z1 o1 hAr hNm => ?_
  have ho : ∀ q : Nat, q < H.size → H1[q]? = H[q]? := fun q hq => o1 q (by omega)
  have hA9 := (hK.1.2 3 _ rfl).2
  have hA : G.2.1 3 = cA := Option.some.inj (Eq.trans (Eq.symm (show s.vm.findClass ("[" ++ (newarray.typeOf .long).toString) = some (G.2.1 3) from hA9)) hNm)
  have hk := k H1 locs lc z1 (hC.born ho (k := kk) (e := eA 3 N (fun _ => 0)) (show H1[mr_ad G kk 0]? = some (arrV (G.2.1 3) N (fun _ => .long (Int64.ofInt 0))) from by rw [had, hA]; exact e1)) (mr_S.born hS (by omega) ho) hl
  have e9 : (vR kk 0 :: st).map (mr_cv G) = .ref h :: st.map (mr_cv G) := by rw [← had]; rfl
  rw [e9] at hk
  exact hk
/-- a final field, put by its class's constructor -/
def mr_FF (ci k : Nat) (ty : FieldType) : Prop := ∃ (C : String) (T : u_T) (N : Nat) (ty0 : Nat → FieldType), vwCl[ci]? = some (C, T, N) ∧ (∀ j, j < N → parseFieldDescriptor (T j).2.2.1 = some (ty0 j)) ∧ (∀ a, a < N → ∀ b, b < N → a ≠ b → (T a).2.1 ≠ (T b).2.1) ∧ (T k).2.2.2 = true ∧ parseFieldDescriptor (T k).2.2.1 = some ty
theorem mrE_putF {a idx ci k : Nat} {fs : List mr_AV} {v : mr_AV} {ty : FieldType} (hh : mr_Hy p s m args meth c G own cc nL ret) (hin2 : meth.name = "<init>") (d : decode cc pc = .ok (.putfield idx, 3)) (hf : mr_FL own idx ci k) (hci : ∃ (T : u_T) (N : Nat), vwCl[ci]? = some (own, T, N)) (hp : mr_FF ci k ty) (hn : narrow ty (mr_cv G v) = mr_cv G v) (hfit : fits ty (mr_cv G v) = true) (hw : w a = eO ci fs) (hk : k < fs.length) (kk : mr_E p l e R s m args below meth c G nL nc ns Q h (pc + 3) ls st (mr_up w a (eO ci (fs.set k v)))) : mr_E p l e R s m args below meth c G nL nc ns Q h pc ls (v :: vR a 0 :: st) w := by
  intro H locs lc hz hC hS0 hl
  obtain ⟨hx, hb, hml, hr, hlk, hown, hts, hK⟩ := id hh
  obtain ⟨C, T, N, h1, h2, h3, h4, h5⟩ := hf
  obtain ⟨C', T', N', ty0, g1, g2, g3, g4, g5⟩ := hp
  obtain ⟨T9, N9, hc9⟩ := hci
  have ee := h1.symm.trans g1
  cases ee
  have ee2 := h1.symm.trans hc9
  cases ee2
  have hc := hC a
  rw [hw] at hc
  have hap := va_apart (own := own) hts h3 ty0 g2 g3 hK.1 h1
  obtain ⟨r, q0, cell, q1, q2, q3, q4⟩ := hc
  have hr : r = (own, T, N) := Option.some.inj (q0.symm.trans h1)
  subst hr
  obtain ⟨hS, hfc, kC, hkC, hkind⟩ := hK.1.1 ci _ h1
  obtain ⟨cf, kf, fi, f, hi, hsl⟩ := hS k h2
  have hlay := hts _ (h3 _ (u_in_lay h2))
  unfold u_lay at hlay
  rw [if_pos g4] at hlay
  have hst := (u_facts hfc hkC (u_lays hts h3 h2) hi).1
  have hcf : m.cls = cf := by
    obtain ⟨_, _, c', _, _, _, -, -, hf', -, -, -, hown2, -⟩ := Cond.laysFinal_spec hlay
    have e1 : c' = cf := by have := hi.symm.trans hf'; simp at this; exact this.1.symm
    rw [h4] at hown2
    rw [← e1]; exact Option.some.inj (hown.symm.trans hown2)
  have h6 := u_fits hfc hkC hkind (Or.inr hlay) hi g5 hn hfit
  refine W.putFinK hx hb hown (hts _ h5) (by rw [h4] at hi; exact hi) hst hcf hin2 (by rw [q2]; exact h6) q1 q3 (by rw [hsl]; exact k2_hasslot (q4 k h2)) rfl rfl d fun H' e1 e2 e3 => ?_
  rw [hsl] at e1 ⊢
  refine kk H' _ lc (e2.trans hz) (hC.set (k := a) (i := 0) hK.2.1 e3 ?_) (hS0.put e2 e3 (hK.2.1.2 a 0)) hl
  show va_at G.1 vwCl (mr_ad G a 0, .inr (ci, (fs.set k v).map (mr_cv G))) H'
  rw [List.map_set]
  exact ⟨_, h1, t_OB.to (V := updV (vp_V (fs.map (mr_cv G))) k (mr_cv G v)) ⟨_, e1, q2, q3, t_set q4 hap h2 _⟩ (fun j _ => vp_updV_set (by rw [List.length_map]; exact hk) _ j)⟩
end NW2
