/-! THE MODEL: rows on numbers that are not below 0; its state. -/
section JP
variable {l : Launch} {G : mr_G} {own : String} {cc : ByteArray} {nL : Nat} {ret : Option FieldType} {rf rl : Nat} {Po : Option mr_AV → mr_Wd → Prop} {pc : Nat} {ls : List (Option mr_AV)} {st : List mr_AV} {w : mr_Wd}
theorem mr_idivp {x y : Int} (d : decode cc pc = .ok (.idiv, 1)) (hx : 0 ≤ x) (hx2 : x < 2147483648) (hy : 0 < y) (hy2 : y < 2147483648) (k : mr_J l G own cc nL ret rf rl Po (pc + 1) ls (vI (x / y) :: st) w) : mr_J l G own cc nL ret rf rl Po pc ls (vI y :: vI x :: st) w := by
  refine mr_idiv d ⟨by omega, hx2⟩ ⟨by omega, hy2⟩ (by omega) ?_
  rw [Int.tdiv_eq_ediv_of_nonneg hx]
  exact k
theorem mr_iremp {x y : Int} (d : decode cc pc = .ok (.irem, 1)) (hx : 0 ≤ x) (hx2 : x < 2147483648) (hy : 0 < y) (hy2 : y < 2147483648) (k : mr_J l G own cc nL ret rf rl Po (pc + 1) ls (vI (x % y) :: st) w) : mr_J l G own cc nL ret rf rl Po pc ls (vI y :: vI x :: st) w := by
  refine mr_irem d ⟨by omega, hx2⟩ ⟨by omega, hy2⟩ (by omega) ?_
  rw [Int.tmod_eq_emod_of_nonneg hx]
  exact k
end JP
theorem mr_mulb {x y A B : Int} (hx : 0 ≤ x ∧ x ≤ A) (hy : 0 ≤ y ∧ y ≤ B) : 0 ≤ x * y ∧ x * y ≤ A * B := ⟨Int.mul_nonneg hx.1 hy.1, Int.mul_le_mul hx.2 hy.2 hy.1 (by omega)⟩
theorem mr_m2 {m : Int} (hm : 1 ≤ m ∧ m ≤ 30) : 1 ≤ m * m ∧ m * m ≤ 900 ∧ m ≤ m * m := by
  have h1 := Int.mul_le_mul hm.1 hm.1 (by decide) (by omega)
  have h2 := (mr_mulb (x := m) (y := m) (A := 30) (B := 30) (by omega) (by omega)).2
  have h3 : m * 1 ≤ m * m := Int.mul_le_mul_of_nonneg_left hm.1 (by omega)
  omega
theorem mr_m3 {m : Int} (hm : 1 ≤ m ∧ m ≤ 30) : 1 ≤ m * m * m ∧ m * m * m ≤ 27000 ∧ m * m ≤ m * m * m := by
  have h0 := mr_m2 hm
  have h1 := Int.mul_le_mul h0.1 hm.1 (by decide) (by omega)
  have h2 := (mr_mulb (x := m * m) (y := m) (A := 900) (B := 30) (by omega) (by omega)).2
  have h3 : m * m * 1 ≤ m * m * m := Int.mul_le_mul_of_nonneg_left hm.1 (by omega)
  omega
theorem mr_dvb {x y : Int} (hx : 0 ≤ x) (hy : 0 < y) : 0 ≤ x / y ∧ x / y ≤ x := ⟨Int.ediv_nonneg hx (by omega), Int.ediv_le_self y hx⟩
abbrev mr_Lm (th tp sz zo fr kd nb ft pl wd sm md li sd : Int) : List mr_AV := [vI th, vR 19 0, vI tp, vI sz, vI zo, vI fr, vI kd, vI nb, vI ft, vI pl, vL wd, vR 20 0, vR 21 0, vR 22 0, vR 23 0, vR 24 0, vI sm, vI md, vR 25 0, vR 26 0, vR 27 0, vI li, vI sd]
abbrev eMo (th tp sz zo fr kd nb ft pl wd sm md li sd : Int) : mr_AE := eO 7 [vI th, vR 19 0, vI tp, vI sz, vI zo, vI fr, vI kd, vI nb, vI ft, vI pl, vL wd, vR 20 0, vR 21 0, vR 22 0, vR 23 0, vR 24 0, vI sm, vI md, vR 25 0, vR 26 0, vR 27 0, vI li, vI sd]
def mr_MW (w : mr_Wd) (th tp sz zo fr kd nb ft pl wd sm md li sd : Int) (T N R K Sn ik s1 s2 ls : Nat → Int) : Prop := w 18 = eMo th tp sz zo fr kd nb ft pl wd sm md li sd ∧ w 19 = eA 0 540 T ∧ w 20 = eA 0 21 N ∧ w 21 = eA 0 21 R ∧ w 22 = eA 0 42 K ∧ w 23 = eA 0 168 Sn ∧ w 24 = eA 1 2 ik ∧ w 25 = eA 1 27000 s1 ∧ w 26 = eA 1 27000 s2 ∧ w 27 = eA 0 27000 ls ∧ (∀ r : Nat, s1 r = 0 ∨ s1 r = 1) ∧ (∀ r : Nat, s2 r = 0 ∨ s2 r = 1) ∧ ∀ r : Nat, ik r = 0 ∨ ik r = 1
def mr_FM (w w' : mr_Wd) : Prop := ∀ k : Nat, k < 18 ∨ 28 ≤ k → w' k = w k
theorem mr_FM.rf (w : mr_Wd) : mr_FM w w := fun _ _ => rfl
theorem mr_FM.tr {w w' w2 : mr_Wd} (h : mr_FM w w') (h2 : mr_FM w' w2) : mr_FM w w2 := fun q hq => (h2 q hq).trans (h q hq)
theorem mr_FM.up {w w' : mr_Wd} (h : mr_FM w w') {k : Nat} (e : mr_AE) (hk : 18 ≤ k ∧ k < 28) : mr_FM w (mr_up w' k e) := fun q hq => (mr_up_ne _ _ (by omega)).trans (h q hq)
theorem mr_b01 {f : Nat → Int} (h : ∀ r : Nat, f r = 0 ∨ f r = 1) (i : Nat) {x : Int} (hx : x = 0 ∨ x = 1) : ∀ r : Nat, mr_fs f i x r = 0 ∨ mr_fs f i x r = 1 := fun r => by
  unfold mr_fs
  split
  · exact hx
  · exact h r
theorem mw_p0 {l : Launch} {G : mr_G} {own : String} {cc : ByteArray} {nL : Nat} {ret : Option FieldType} {rf rl : Nat} {Po : Option mr_AV → mr_Wd → Prop} {pc : Nat} {lo : List (Option mr_AV)} {st : List mr_AV} {w : mr_Wd} {th tp sz zo fr kd nb ft pl wd sm md li sd : Int} {T N R K Sn ik s1 s2 ls : Nat → Int} {xx : Int} (hM : mr_MW w th tp sz zo fr kd nb ft pl wd sm md li sd T N R K Sn ik s1 s2 ls) (k : ∀ w1 : mr_Wd, mr_MW w1 (xx) tp sz zo fr kd nb ft pl wd sm md li sd T N R K Sn ik s1 s2 ls → mr_FM w w1 → mr_J l G own cc nL ret rf rl Po pc lo st w1) : mr_J l G own cc nL ret rf rl Po pc lo st (mr_up w 18 (eO 7 ((mr_Lm th tp sz zo fr kd nb ft pl wd sm md li sd).set 0 (vI xx)))) := by
  obtain ⟨h18, h19, h20, h21, h22, h23, h24, h25, h26, h27, hs1, hs2, hik⟩ := hM
  exact k _ ⟨rfl, h19, h20, h21, h22, h23, h24, h25, h26, h27, hs1, hs2, hik⟩ ((mr_FM.rf w).up _ (by decide))
theorem mw_p2 {l : Launch} {G : mr_G} {own : String} {cc : ByteArray} {nL : Nat} {ret : Option FieldType} {rf rl : Nat} {Po : Option mr_AV → mr_Wd → Prop} {pc : Nat} {lo : List (Option mr_AV)} {st : List mr_AV} {w : mr_Wd} {th tp sz zo fr kd nb ft pl wd sm md li sd : Int} {T N R K Sn ik s1 s2 ls : Nat → Int} {xx : Int} (hM : mr_MW w th tp sz zo fr kd nb ft pl wd sm md li sd T N R K Sn ik s1 s2 ls) (k : ∀ w1 : mr_Wd, mr_MW w1 th (xx) sz zo fr kd nb ft pl wd sm md li sd T N R K Sn ik s1 s2 ls → mr_FM w w1 → mr_J l G own cc nL ret rf rl Po pc lo st w1) : mr_J l G own cc nL ret rf rl Po pc lo st (mr_up w 18 (eO 7 ((mr_Lm th tp sz zo fr kd nb ft pl wd sm md li sd).set 2 (vI xx)))) := by
  obtain ⟨h18, h19, h20, h21, h22, h23, h24, h25, h26, h27, hs1, hs2, hik⟩ := hM
  exact k _ ⟨rfl, h19, h20, h21, h22, h23, h24, h25, h26, h27, hs1, hs2, hik⟩ ((mr_FM.rf w).up _ (by decide))
theorem mw_p3 {l : Launch} {G : mr_G} {own : String} {cc : ByteArray} {nL : Nat} {ret : Option FieldType} {rf rl : Nat} {Po : Option mr_AV → mr_Wd → Prop} {pc : Nat} {lo : List (Option mr_AV)} {st : List mr_AV} {w : mr_Wd} {th tp sz zo fr kd nb ft pl wd sm md li sd : Int} {T N R K Sn ik s1 s2 ls : Nat → Int} {xx : Int} (hM : mr_MW w th tp sz zo fr kd nb ft pl wd sm md li sd T N R K Sn ik s1 s2 ls) (k : ∀ w1 : mr_Wd, mr_MW w1 th tp (xx) zo fr kd nb ft pl wd sm md li sd T N R K Sn ik s1 s2 ls → mr_FM w w1 → mr_J l G own cc nL ret rf rl Po pc lo st w1) : mr_J l G own cc nL ret rf rl Po pc lo st (mr_up w 18 (eO 7 ((mr_Lm th tp sz zo fr kd nb ft pl wd sm md li sd).set 3 (vI xx)))) := by
  obtain ⟨h18, h19, h20, h21, h22, h23, h24, h25, h26, h27, hs1, hs2, hik⟩ := hM
  exact k _ ⟨rfl, h19, h20, h21, h22, h23, h24, h25, h26, h27, hs1, hs2, hik⟩ ((mr_FM.rf w).up _ (by decide))
theorem mw_p4 {l : Launch} {G : mr_G} {own : String} {cc : ByteArray} {nL : Nat} {ret : Option FieldType} {rf rl : Nat} {Po : Option mr_AV → mr_Wd → Prop} {pc : Nat} {lo : List (Option mr_AV)} {st : List mr_AV} {w : mr_Wd} {th tp sz zo fr kd nb ft pl wd sm md li sd : Int} {T N R K Sn ik s1 s2 ls : Nat → Int} {xx : Int} (hM : mr_MW w th tp sz zo fr kd nb ft pl wd sm md li sd T N R K Sn ik s1 s2 ls) (k : ∀ w1 : mr_Wd, mr_MW w1 th tp sz (xx) fr kd nb ft pl wd sm md li sd T N R K Sn ik s1 s2 ls → mr_FM w w1 → mr_J l G own cc nL ret rf rl Po pc lo st w1) : mr_J l G own cc nL ret rf rl Po pc lo st (mr_up w 18 (eO 7 ((mr_Lm th tp sz zo fr kd nb ft pl wd sm md li sd).set 4 (vI xx)))) := by
  obtain ⟨h18, h19, h20, h21, h22, h23, h24, h25, h26, h27, hs1, hs2, hik⟩ := hM
  exact k _ ⟨rfl, h19, h20, h21, h22, h23, h24, h25, h26, h27, hs1, hs2, hik⟩ ((mr_FM.rf w).up _ (by decide))
theorem mw_p5 {l : Launch} {G : mr_G} {own : String} {cc : ByteArray} {nL : Nat} {ret : Option FieldType} {rf rl : Nat} {Po : Option mr_AV → mr_Wd → Prop} {pc : Nat} {lo : List (Option mr_AV)} {st : List mr_AV} {w : mr_Wd} {th tp sz zo fr kd nb ft pl wd sm md li sd : Int} {T N R K Sn ik s1 s2 ls : Nat → Int} {xx : Int} (hM : mr_MW w th tp sz zo fr kd nb ft pl wd sm md li sd T N R K Sn ik s1 s2 ls) (k : ∀ w1 : mr_Wd, mr_MW w1 th tp sz zo (xx) kd nb ft pl wd sm md li sd T N R K Sn ik s1 s2 ls → mr_FM w w1 → mr_J l G own cc nL ret rf rl Po pc lo st w1) : mr_J l G own cc nL ret rf rl Po pc lo st (mr_up w 18 (eO 7 ((mr_Lm th tp sz zo fr kd nb ft pl wd sm md li sd).set 5 (vI xx)))) := by
  obtain ⟨h18, h19, h20, h21, h22, h23, h24, h25, h26, h27, hs1, hs2, hik⟩ := hM
  exact k _ ⟨rfl, h19, h20, h21, h22, h23, h24, h25, h26, h27, hs1, hs2, hik⟩ ((mr_FM.rf w).up _ (by decide))
theorem mw_p6 {l : Launch} {G : mr_G} {own : String} {cc : ByteArray} {nL : Nat} {ret : Option FieldType} {rf rl : Nat} {Po : Option mr_AV → mr_Wd → Prop} {pc : Nat} {lo : List (Option mr_AV)} {st : List mr_AV} {w : mr_Wd} {th tp sz zo fr kd nb ft pl wd sm md li sd : Int} {T N R K Sn ik s1 s2 ls : Nat → Int} {xx : Int} (hM : mr_MW w th tp sz zo fr kd nb ft pl wd sm md li sd T N R K Sn ik s1 s2 ls) (k : ∀ w1 : mr_Wd, mr_MW w1 th tp sz zo fr (xx) nb ft pl wd sm md li sd T N R K Sn ik s1 s2 ls → mr_FM w w1 → mr_J l G own cc nL ret rf rl Po pc lo st w1) : mr_J l G own cc nL ret rf rl Po pc lo st (mr_up w 18 (eO 7 ((mr_Lm th tp sz zo fr kd nb ft pl wd sm md li sd).set 6 (vI xx)))) := by
  obtain ⟨h18, h19, h20, h21, h22, h23, h24, h25, h26, h27, hs1, hs2, hik⟩ := hM
  exact k _ ⟨rfl, h19, h20, h21, h22, h23, h24, h25, h26, h27, hs1, hs2, hik⟩ ((mr_FM.rf w).up _ (by decide))
theorem mw_p7 {l : Launch} {G : mr_G} {own : String} {cc : ByteArray} {nL : Nat} {ret : Option FieldType} {rf rl : Nat} {Po : Option mr_AV → mr_Wd → Prop} {pc : Nat} {lo : List (Option mr_AV)} {st : List mr_AV} {w : mr_Wd} {th tp sz zo fr kd nb ft pl wd sm md li sd : Int} {T N R K Sn ik s1 s2 ls : Nat → Int} {xx : Int} (hM : mr_MW w th tp sz zo fr kd nb ft pl wd sm md li sd T N R K Sn ik s1 s2 ls) (k : ∀ w1 : mr_Wd, mr_MW w1 th tp sz zo fr kd (xx) ft pl wd sm md li sd T N R K Sn ik s1 s2 ls → mr_FM w w1 → mr_J l G own cc nL ret rf rl Po pc lo st w1) : mr_J l G own cc nL ret rf rl Po pc lo st (mr_up w 18 (eO 7 ((mr_Lm th tp sz zo fr kd nb ft pl wd sm md li sd).set 7 (vI xx)))) := by
  obtain ⟨h18, h19, h20, h21, h22, h23, h24, h25, h26, h27, hs1, hs2, hik⟩ := hM
  exact k _ ⟨rfl, h19, h20, h21, h22, h23, h24, h25, h26, h27, hs1, hs2, hik⟩ ((mr_FM.rf w).up _ (by decide))
theorem mw_p8 {l : Launch} {G : mr_G} {own : String} {cc : ByteArray} {nL : Nat} {ret : Option FieldType} {rf rl : Nat} {Po : Option mr_AV → mr_Wd → Prop} {pc : Nat} {lo : List (Option mr_AV)} {st : List mr_AV} {w : mr_Wd} {th tp sz zo fr kd nb ft pl wd sm md li sd : Int} {T N R K Sn ik s1 s2 ls : Nat → Int} {xx : Int} (hM : mr_MW w th tp sz zo fr kd nb ft pl wd sm md li sd T N R K Sn ik s1 s2 ls) (k : ∀ w1 : mr_Wd, mr_MW w1 th tp sz zo fr kd nb (xx) pl wd sm md li sd T N R K Sn ik s1 s2 ls → mr_FM w w1 → mr_J l G own cc nL ret rf rl Po pc lo st w1) : mr_J l G own cc nL ret rf rl Po pc lo st (mr_up w 18 (eO 7 ((mr_Lm th tp sz zo fr kd nb ft pl wd sm md li sd).set 8 (vI xx)))) := by
  obtain ⟨h18, h19, h20, h21, h22, h23, h24, h25, h26, h27, hs1, hs2, hik⟩ := hM
  exact k _ ⟨rfl, h19, h20, h21, h22, h23, h24, h25, h26, h27, hs1, hs2, hik⟩ ((mr_FM.rf w).up _ (by decide))
theorem mw_p9 {l : Launch} {G : mr_G} {own : String} {cc : ByteArray} {nL : Nat} {ret : Option FieldType} {rf rl : Nat} {Po : Option mr_AV → mr_Wd → Prop} {pc : Nat} {lo : List (Option mr_AV)} {st : List mr_AV} {w : mr_Wd} {th tp sz zo fr kd nb ft pl wd sm md li sd : Int} {T N R K Sn ik s1 s2 ls : Nat → Int} {xx : Int} (hM : mr_MW w th tp sz zo fr kd nb ft pl wd sm md li sd T N R K Sn ik s1 s2 ls) (k : ∀ w1 : mr_Wd, mr_MW w1 th tp sz zo fr kd nb ft (xx) wd sm md li sd T N R K Sn ik s1 s2 ls → mr_FM w w1 → mr_J l G own cc nL ret rf rl Po pc lo st w1) : mr_J l G own cc nL ret rf rl Po pc lo st (mr_up w 18 (eO 7 ((mr_Lm th tp sz zo fr kd nb ft pl wd sm md li sd).set 9 (vI xx)))) := by
  obtain ⟨h18, h19, h20, h21, h22, h23, h24, h25, h26, h27, hs1, hs2, hik⟩ := hM
  exact k _ ⟨rfl, h19, h20, h21, h22, h23, h24, h25, h26, h27, hs1, hs2, hik⟩ ((mr_FM.rf w).up _ (by decide))
theorem mw_p10 {l : Launch} {G : mr_G} {own : String} {cc : ByteArray} {nL : Nat} {ret : Option FieldType} {rf rl : Nat} {Po : Option mr_AV → mr_Wd → Prop} {pc : Nat} {lo : List (Option mr_AV)} {st : List mr_AV} {w : mr_Wd} {th tp sz zo fr kd nb ft pl wd sm md li sd : Int} {T N R K Sn ik s1 s2 ls : Nat → Int} {xx : Int} (hM : mr_MW w th tp sz zo fr kd nb ft pl wd sm md li sd T N R K Sn ik s1 s2 ls) (k : ∀ w1 : mr_Wd, mr_MW w1 th tp sz zo fr kd nb ft pl (xx) sm md li sd T N R K Sn ik s1 s2 ls → mr_FM w w1 → mr_J l G own cc nL ret rf rl Po pc lo st w1) : mr_J l G own cc nL ret rf rl Po pc lo st (mr_up w 18 (eO 7 ((mr_Lm th tp sz zo fr kd nb ft pl wd sm md li sd).set 10 (vL xx)))) := by
  obtain ⟨h18, h19, h20, h21, h22, h23, h24, h25, h26, h27, hs1, hs2, hik⟩ := hM
  exact k _ ⟨rfl, h19, h20, h21, h22, h23, h24, h25, h26, h27, hs1, hs2, hik⟩ ((mr_FM.rf w).up _ (by decide))
theorem mw_p16 {l : Launch} {G : mr_G} {own : String} {cc : ByteArray} {nL : Nat} {ret : Option FieldType} {rf rl : Nat} {Po : Option mr_AV → mr_Wd → Prop} {pc : Nat} {lo : List (Option mr_AV)} {st : List mr_AV} {w : mr_Wd} {th tp sz zo fr kd nb ft pl wd sm md li sd : Int} {T N R K Sn ik s1 s2 ls : Nat → Int} {xx : Int} (hM : mr_MW w th tp sz zo fr kd nb ft pl wd sm md li sd T N R K Sn ik s1 s2 ls) (k : ∀ w1 : mr_Wd, mr_MW w1 th tp sz zo fr kd nb ft pl wd (xx) md li sd T N R K Sn ik s1 s2 ls → mr_FM w w1 → mr_J l G own cc nL ret rf rl Po pc lo st w1) : mr_J l G own cc nL ret rf rl Po pc lo st (mr_up w 18 (eO 7 ((mr_Lm th tp sz zo fr kd nb ft pl wd sm md li sd).set 16 (vI xx)))) := by
  obtain ⟨h18, h19, h20, h21, h22, h23, h24, h25, h26, h27, hs1, hs2, hik⟩ := hM
  exact k _ ⟨rfl, h19, h20, h21, h22, h23, h24, h25, h26, h27, hs1, hs2, hik⟩ ((mr_FM.rf w).up _ (by decide))
theorem mw_p17 {l : Launch} {G : mr_G} {own : String} {cc : ByteArray} {nL : Nat} {ret : Option FieldType} {rf rl : Nat} {Po : Option mr_AV → mr_Wd → Prop} {pc : Nat} {lo : List (Option mr_AV)} {st : List mr_AV} {w : mr_Wd} {th tp sz zo fr kd nb ft pl wd sm md li sd : Int} {T N R K Sn ik s1 s2 ls : Nat → Int} {xx : Int} (hM : mr_MW w th tp sz zo fr kd nb ft pl wd sm md li sd T N R K Sn ik s1 s2 ls) (k : ∀ w1 : mr_Wd, mr_MW w1 th tp sz zo fr kd nb ft pl wd sm (xx) li sd T N R K Sn ik s1 s2 ls → mr_FM w w1 → mr_J l G own cc nL ret rf rl Po pc lo st w1) : mr_J l G own cc nL ret rf rl Po pc lo st (mr_up w 18 (eO 7 ((mr_Lm th tp sz zo fr kd nb ft pl wd sm md li sd).set 17 (vI xx)))) := by
  obtain ⟨h18, h19, h20, h21, h22, h23, h24, h25, h26, h27, hs1, hs2, hik⟩ := hM
  exact k _ ⟨rfl, h19, h20, h21, h22, h23, h24, h25, h26, h27, hs1, hs2, hik⟩ ((mr_FM.rf w).up _ (by decide))
theorem mw_p21 {l : Launch} {G : mr_G} {own : String} {cc : ByteArray} {nL : Nat} {ret : Option FieldType} {rf rl : Nat} {Po : Option mr_AV → mr_Wd → Prop} {pc : Nat} {lo : List (Option mr_AV)} {st : List mr_AV} {w : mr_Wd} {th tp sz zo fr kd nb ft pl wd sm md li sd : Int} {T N R K Sn ik s1 s2 ls : Nat → Int} {xx : Int} (hM : mr_MW w th tp sz zo fr kd nb ft pl wd sm md li sd T N R K Sn ik s1 s2 ls) (k : ∀ w1 : mr_Wd, mr_MW w1 th tp sz zo fr kd nb ft pl wd sm md (xx) sd T N R K Sn ik s1 s2 ls → mr_FM w w1 → mr_J l G own cc nL ret rf rl Po pc lo st w1) : mr_J l G own cc nL ret rf rl Po pc lo st (mr_up w 18 (eO 7 ((mr_Lm th tp sz zo fr kd nb ft pl wd sm md li sd).set 21 (vI xx)))) := by
  obtain ⟨h18, h19, h20, h21, h22, h23, h24, h25, h26, h27, hs1, hs2, hik⟩ := hM
  exact k _ ⟨rfl, h19, h20, h21, h22, h23, h24, h25, h26, h27, hs1, hs2, hik⟩ ((mr_FM.rf w).up _ (by decide))
theorem mw_p22 {l : Launch} {G : mr_G} {own : String} {cc : ByteArray} {nL : Nat} {ret : Option FieldType} {rf rl : Nat} {Po : Option mr_AV → mr_Wd → Prop} {pc : Nat} {lo : List (Option mr_AV)} {st : List mr_AV} {w : mr_Wd} {th tp sz zo fr kd nb ft pl wd sm md li sd : Int} {T N R K Sn ik s1 s2 ls : Nat → Int} {xx : Int} (hM : mr_MW w th tp sz zo fr kd nb ft pl wd sm md li sd T N R K Sn ik s1 s2 ls) (k : ∀ w1 : mr_Wd, mr_MW w1 th tp sz zo fr kd nb ft pl wd sm md li (xx) T N R K Sn ik s1 s2 ls → mr_FM w w1 → mr_J l G own cc nL ret rf rl Po pc lo st w1) : mr_J l G own cc nL ret rf rl Po pc lo st (mr_up w 18 (eO 7 ((mr_Lm th tp sz zo fr kd nb ft pl wd sm md li sd).set 22 (vI xx)))) := by
  obtain ⟨h18, h19, h20, h21, h22, h23, h24, h25, h26, h27, hs1, hs2, hik⟩ := hM
  exact k _ ⟨rfl, h19, h20, h21, h22, h23, h24, h25, h26, h27, hs1, hs2, hik⟩ ((mr_FM.rf w).up _ (by decide))
theorem mw_a19 {l : Launch} {G : mr_G} {own : String} {cc : ByteArray} {nL : Nat} {ret : Option FieldType} {rf rl : Nat} {Po : Option mr_AV → mr_Wd → Prop} {pc : Nat} {lo : List (Option mr_AV)} {st : List mr_AV} {w : mr_Wd} {th tp sz zo fr kd nb ft pl wd sm md li sd : Int} {T N R K Sn ik s1 s2 ls : Nat → Int} {ff : Nat → Int} (hM : mr_MW w th tp sz zo fr kd nb ft pl wd sm md li sd T N R K Sn ik s1 s2 ls) (k : ∀ w1 : mr_Wd, mr_MW w1 th tp sz zo fr kd nb ft pl wd sm md li sd (ff) N R K Sn ik s1 s2 ls → mr_FM w w1 → mr_J l G own cc nL ret rf rl Po pc lo st w1) : mr_J l G own cc nL ret rf rl Po pc lo st (mr_up w 19 (eA 0 540 ff)) := by
  obtain ⟨h18, h19, h20, h21, h22, h23, h24, h25, h26, h27, hs1, hs2, hik⟩ := hM
  exact k _ ⟨h18, rfl, h20, h21, h22, h23, h24, h25, h26, h27, hs1, hs2, hik⟩ ((mr_FM.rf w).up _ (by decide))
theorem mw_a20 {l : Launch} {G : mr_G} {own : String} {cc : ByteArray} {nL : Nat} {ret : Option FieldType} {rf rl : Nat} {Po : Option mr_AV → mr_Wd → Prop} {pc : Nat} {lo : List (Option mr_AV)} {st : List mr_AV} {w : mr_Wd} {th tp sz zo fr kd nb ft pl wd sm md li sd : Int} {T N R K Sn ik s1 s2 ls : Nat → Int} {ff : Nat → Int} (hM : mr_MW w th tp sz zo fr kd nb ft pl wd sm md li sd T N R K Sn ik s1 s2 ls) (k : ∀ w1 : mr_Wd, mr_MW w1 th tp sz zo fr kd nb ft pl wd sm md li sd T (ff) R K Sn ik s1 s2 ls → mr_FM w w1 → mr_J l G own cc nL ret rf rl Po pc lo st w1) : mr_J l G own cc nL ret rf rl Po pc lo st (mr_up w 20 (eA 0 21 ff)) := by
  obtain ⟨h18, h19, h20, h21, h22, h23, h24, h25, h26, h27, hs1, hs2, hik⟩ := hM
  exact k _ ⟨h18, h19, rfl, h21, h22, h23, h24, h25, h26, h27, hs1, hs2, hik⟩ ((mr_FM.rf w).up _ (by decide))
theorem mw_a21 {l : Launch} {G : mr_G} {own : String} {cc : ByteArray} {nL : Nat} {ret : Option FieldType} {rf rl : Nat} {Po : Option mr_AV → mr_Wd → Prop} {pc : Nat} {lo : List (Option mr_AV)} {st : List mr_AV} {w : mr_Wd} {th tp sz zo fr kd nb ft pl wd sm md li sd : Int} {T N R K Sn ik s1 s2 ls : Nat → Int} {ff : Nat → Int} (hM : mr_MW w th tp sz zo fr kd nb ft pl wd sm md li sd T N R K Sn ik s1 s2 ls) (k : ∀ w1 : mr_Wd, mr_MW w1 th tp sz zo fr kd nb ft pl wd sm md li sd T N (ff) K Sn ik s1 s2 ls → mr_FM w w1 → mr_J l G own cc nL ret rf rl Po pc lo st w1) : mr_J l G own cc nL ret rf rl Po pc lo st (mr_up w 21 (eA 0 21 ff)) := by
  obtain ⟨h18, h19, h20, h21, h22, h23, h24, h25, h26, h27, hs1, hs2, hik⟩ := hM
  exact k _ ⟨h18, h19, h20, rfl, h22, h23, h24, h25, h26, h27, hs1, hs2, hik⟩ ((mr_FM.rf w).up _ (by decide))
theorem mw_a22 {l : Launch} {G : mr_G} {own : String} {cc : ByteArray} {nL : Nat} {ret : Option FieldType} {rf rl : Nat} {Po : Option mr_AV → mr_Wd → Prop} {pc : Nat} {lo : List (Option mr_AV)} {st : List mr_AV} {w : mr_Wd} {th tp sz zo fr kd nb ft pl wd sm md li sd : Int} {T N R K Sn ik s1 s2 ls : Nat → Int} {ff : Nat → Int} (hM : mr_MW w th tp sz zo fr kd nb ft pl wd sm md li sd T N R K Sn ik s1 s2 ls) (k : ∀ w1 : mr_Wd, mr_MW w1 th tp sz zo fr kd nb ft pl wd sm md li sd T N R (ff) Sn ik s1 s2 ls → mr_FM w w1 → mr_J l G own cc nL ret rf rl Po pc lo st w1) : mr_J l G own cc nL ret rf rl Po pc lo st (mr_up w 22 (eA 0 42 ff)) := by
  obtain ⟨h18, h19, h20, h21, h22, h23, h24, h25, h26, h27, hs1, hs2, hik⟩ := hM
  exact k _ ⟨h18, h19, h20, h21, rfl, h23, h24, h25, h26, h27, hs1, hs2, hik⟩ ((mr_FM.rf w).up _ (by decide))
theorem mw_a23 {l : Launch} {G : mr_G} {own : String} {cc : ByteArray} {nL : Nat} {ret : Option FieldType} {rf rl : Nat} {Po : Option mr_AV → mr_Wd → Prop} {pc : Nat} {lo : List (Option mr_AV)} {st : List mr_AV} {w : mr_Wd} {th tp sz zo fr kd nb ft pl wd sm md li sd : Int} {T N R K Sn ik s1 s2 ls : Nat → Int} {ff : Nat → Int} (hM : mr_MW w th tp sz zo fr kd nb ft pl wd sm md li sd T N R K Sn ik s1 s2 ls) (k : ∀ w1 : mr_Wd, mr_MW w1 th tp sz zo fr kd nb ft pl wd sm md li sd T N R K (ff) ik s1 s2 ls → mr_FM w w1 → mr_J l G own cc nL ret rf rl Po pc lo st w1) : mr_J l G own cc nL ret rf rl Po pc lo st (mr_up w 23 (eA 0 168 ff)) := by
  obtain ⟨h18, h19, h20, h21, h22, h23, h24, h25, h26, h27, hs1, hs2, hik⟩ := hM
  exact k _ ⟨h18, h19, h20, h21, h22, rfl, h24, h25, h26, h27, hs1, hs2, hik⟩ ((mr_FM.rf w).up _ (by decide))
theorem mw_a24 {l : Launch} {G : mr_G} {own : String} {cc : ByteArray} {nL : Nat} {ret : Option FieldType} {rf rl : Nat} {Po : Option mr_AV → mr_Wd → Prop} {pc : Nat} {lo : List (Option mr_AV)} {st : List mr_AV} {w : mr_Wd} {th tp sz zo fr kd nb ft pl wd sm md li sd : Int} {T N R K Sn ik s1 s2 ls : Nat → Int} {ff : Nat → Int} (hM : mr_MW w th tp sz zo fr kd nb ft pl wd sm md li sd T N R K Sn ik s1 s2 ls) (hb : ∀ r : Nat, ff r = 0 ∨ ff r = 1) (k : ∀ w1 : mr_Wd, mr_MW w1 th tp sz zo fr kd nb ft pl wd sm md li sd T N R K Sn (ff) s1 s2 ls → mr_FM w w1 → mr_J l G own cc nL ret rf rl Po pc lo st w1) : mr_J l G own cc nL ret rf rl Po pc lo st (mr_up w 24 (eA 1 2 ff)) := by
  obtain ⟨h18, h19, h20, h21, h22, h23, h24, h25, h26, h27, hs1, hs2, hik⟩ := hM
  exact k _ ⟨h18, h19, h20, h21, h22, h23, rfl, h25, h26, h27, hs1, hs2, hb⟩ ((mr_FM.rf w).up _ (by decide))
theorem mw_a25 {l : Launch} {G : mr_G} {own : String} {cc : ByteArray} {nL : Nat} {ret : Option FieldType} {rf rl : Nat} {Po : Option mr_AV → mr_Wd → Prop} {pc : Nat} {lo : List (Option mr_AV)} {st : List mr_AV} {w : mr_Wd} {th tp sz zo fr kd nb ft pl wd sm md li sd : Int} {T N R K Sn ik s1 s2 ls : Nat → Int} {ff : Nat → Int} (hM : mr_MW w th tp sz zo fr kd nb ft pl wd sm md li sd T N R K Sn ik s1 s2 ls) (hb : ∀ r : Nat, ff r = 0 ∨ ff r = 1) (k : ∀ w1 : mr_Wd, mr_MW w1 th tp sz zo fr kd nb ft pl wd sm md li sd T N R K Sn ik (ff) s2 ls → mr_FM w w1 → mr_J l G own cc nL ret rf rl Po pc lo st w1) : mr_J l G own cc nL ret rf rl Po pc lo st (mr_up w 25 (eA 1 27000 ff)) := by
  obtain ⟨h18, h19, h20, h21, h22, h23, h24, h25, h26, h27, hs1, hs2, hik⟩ := hM
  exact k _ ⟨h18, h19, h20, h21, h22, h23, h24, rfl, h26, h27, hb, hs2, hik⟩ ((mr_FM.rf w).up _ (by decide))
theorem mw_a26 {l : Launch} {G : mr_G} {own : String} {cc : ByteArray} {nL : Nat} {ret : Option FieldType} {rf rl : Nat} {Po : Option mr_AV → mr_Wd → Prop} {pc : Nat} {lo : List (Option mr_AV)} {st : List mr_AV} {w : mr_Wd} {th tp sz zo fr kd nb ft pl wd sm md li sd : Int} {T N R K Sn ik s1 s2 ls : Nat → Int} {ff : Nat → Int} (hM : mr_MW w th tp sz zo fr kd nb ft pl wd sm md li sd T N R K Sn ik s1 s2 ls) (hb : ∀ r : Nat, ff r = 0 ∨ ff r = 1) (k : ∀ w1 : mr_Wd, mr_MW w1 th tp sz zo fr kd nb ft pl wd sm md li sd T N R K Sn ik s1 (ff) ls → mr_FM w w1 → mr_J l G own cc nL ret rf rl Po pc lo st w1) : mr_J l G own cc nL ret rf rl Po pc lo st (mr_up w 26 (eA 1 27000 ff)) := by
  obtain ⟨h18, h19, h20, h21, h22, h23, h24, h25, h26, h27, hs1, hs2, hik⟩ := hM
  exact k _ ⟨h18, h19, h20, h21, h22, h23, h24, h25, rfl, h27, hs1, hb, hik⟩ ((mr_FM.rf w).up _ (by decide))
theorem mw_a27 {l : Launch} {G : mr_G} {own : String} {cc : ByteArray} {nL : Nat} {ret : Option FieldType} {rf rl : Nat} {Po : Option mr_AV → mr_Wd → Prop} {pc : Nat} {lo : List (Option mr_AV)} {st : List mr_AV} {w : mr_Wd} {th tp sz zo fr kd nb ft pl wd sm md li sd : Int} {T N R K Sn ik s1 s2 ls : Nat → Int} {ff : Nat → Int} (hM : mr_MW w th tp sz zo fr kd nb ft pl wd sm md li sd T N R K Sn ik s1 s2 ls) (k : ∀ w1 : mr_Wd, mr_MW w1 th tp sz zo fr kd nb ft pl wd sm md li sd T N R K Sn ik s1 s2 (ff) → mr_FM w w1 → mr_J l G own cc nL ret rf rl Po pc lo st w1) : mr_J l G own cc nL ret rf rl Po pc lo st (mr_up w 27 (eA 0 27000 ff)) := by
  obtain ⟨h18, h19, h20, h21, h22, h23, h24, h25, h26, h27, hs1, hs2, hik⟩ := hM
  exact k _ ⟨h18, h19, h20, h21, h22, h23, h24, h25, h26, rfl, hs1, hs2, hik⟩ ((mr_FM.rf w).up _ (by decide))
def T_X7_isIn (a : List mr_AV) (w : mr_Wd) (Po : Option mr_AV → mr_Wd → Prop) : Prop := ∃ (x y z : Int), a = [vI x, vI y, vI z] ∧ InR x ∧ InR y ∧ InR z ∧ (y ≤ x ∧ x ≤ z → Po (some (vI 1)) w) ∧ (¬ (y ≤ x ∧ x ≤ z) → Po (some (vI 0)) w)
set_option maxHeartbeats 4000000 in
set_option maxRecDepth 20000 in
theorem ok_X7_isIn (l : Launch) (G : mr_G) : mr_Ok l G yX7_isIn cX7_isIn 3 (some .boolean) 0 0 T_X7_isIn := by
  refine mr_Ok.of (by decide +kernel) ?_
  rintro a w Po ⟨x, y, z, rfl, hx, hy, hz, hP, hQ⟩
  refine ⟨Nat.le_of_ble_eq_true rfl, ?_⟩
  show mr_J l G RX7 cX7_isIn 3 (some .boolean) 0 0 Po 0 [some (vI x), some (vI y), some (vI z)] [] w
  refine mr_iload_n dX7_isIn_0 rfl ?_
  refine mr_iload_n dX7_isIn_1 rfl ?_
  refine mr_icmp_lt (tgt := 14) dX7_isIn_2 (by decide) hx hy (fun hc_2 => ?_) (fun hc_2 => ?_)
  · refine mr_iconst dX7_isIn_14 ?_
    refine mr_zret rfl (Or.inl rfl) dX7_isIn_15 ?_
    first | exact hP (by omega) | exact hQ (by omega)
  · refine mr_iload_n dX7_isIn_5 rfl ?_
    refine mr_iload_n dX7_isIn_6 rfl ?_
    refine mr_icmp_gt (tgt := 14) dX7_isIn_7 (by decide) hx hz (fun hc_7 => ?_) (fun hc_7 => ?_)
    · refine mr_iconst dX7_isIn_14 ?_
      refine mr_zret rfl (Or.inl rfl) dX7_isIn_15 ?_
      first | exact hP (by omega) | exact hQ (by omega)
    · refine mr_iconst dX7_isIn_10 ?_
      refine mr_goto (tgt := 15) dX7_isIn_11 (by decide) ?_
      refine mr_zret rfl (Or.inr rfl) dX7_isIn_15 ?_
      first | exact hP (by omega) | exact hQ (by omega)
def T_X7_isDigit (a : List mr_AV) (w : mr_Wd) (Po : Option mr_AV → mr_Wd → Prop) : Prop := ∃ (x : Int), a = [vI x] ∧ InR x ∧ (48 ≤ x ∧ x ≤ 57 → Po (some (vI 1)) w) ∧ (¬ (48 ≤ x ∧ x ≤ 57) → Po (some (vI 0)) w)
set_option maxHeartbeats 4000000 in
set_option maxRecDepth 20000 in
theorem ok_X7_isDigit (l : Launch) (G : mr_G) : mr_Ok l G yX7_isDigit cX7_isDigit 1 (some .boolean) 0 0 T_X7_isDigit := by
  refine mr_Ok.of (by decide +kernel) ?_
  rintro a w Po ⟨x, rfl, hx, hP, hQ⟩
  refine ⟨Nat.le_of_ble_eq_true rfl, ?_⟩
  show mr_J l G RX7 cX7_isDigit 1 (some .boolean) 0 0 Po 0 [some (vI x)] [] w
  refine mr_iload_n dX7_isDigit_0 rfl ?_
  refine mr_bipush dX7_isDigit_1 rfl ?_
  refine mr_icmp_lt (tgt := 16) dX7_isDigit_3 (by decide) (by omega) (by omega) (fun hc_3 => ?_) (fun hc_3 => ?_)
  · refine mr_iconst dX7_isDigit_16 ?_
    refine mr_zret rfl (Or.inl rfl) dX7_isDigit_17 ?_
    first | exact hP (by omega) | exact hQ (by omega)
  · refine mr_iload_n dX7_isDigit_6 rfl ?_
    refine mr_bipush dX7_isDigit_7 rfl ?_
    refine mr_icmp_gt (tgt := 16) dX7_isDigit_9 (by decide) (by omega) (by omega) (fun hc_9 => ?_) (fun hc_9 => ?_)
    · refine mr_iconst dX7_isDigit_16 ?_
      refine mr_zret rfl (Or.inl rfl) dX7_isDigit_17 ?_
      first | exact hP (by omega) | exact hQ (by omega)
    · refine mr_iconst dX7_isDigit_12 ?_
      refine mr_goto (tgt := 17) dX7_isDigit_13 (by decide) ?_
      refine mr_zret rfl (Or.inr rfl) dX7_isDigit_17 ?_
      first | exact hP (by omega) | exact hQ (by omega)
def T_X7_isLetter (a : List mr_AV) (w : mr_Wd) (Po : Option mr_AV → mr_Wd → Prop) : Prop := ∃ (x : Int), a = [vI x] ∧ InR x ∧ (97 ≤ x ∧ x ≤ 122 → Po (some (vI 1)) w) ∧ (¬ (97 ≤ x ∧ x ≤ 122) → Po (some (vI 0)) w)
set_option maxHeartbeats 4000000 in
set_option maxRecDepth 20000 in
theorem ok_X7_isLetter (l : Launch) (G : mr_G) : mr_Ok l G yX7_isLetter cX7_isLetter 1 (some .boolean) 0 0 T_X7_isLetter := by
  refine mr_Ok.of (by decide +kernel) ?_
  rintro a w Po ⟨x, rfl, hx, hP, hQ⟩
  refine ⟨Nat.le_of_ble_eq_true rfl, ?_⟩
  show mr_J l G RX7 cX7_isLetter 1 (some .boolean) 0 0 Po 0 [some (vI x)] [] w
  refine mr_iload_n dX7_isLetter_0 rfl ?_
  refine mr_bipush dX7_isLetter_1 rfl ?_
  refine mr_icmp_lt (tgt := 16) dX7_isLetter_3 (by decide) (by omega) (by omega) (fun hc_3 => ?_) (fun hc_3 => ?_)
  · refine mr_iconst dX7_isLetter_16 ?_
    refine mr_zret rfl (Or.inl rfl) dX7_isLetter_17 ?_
    first | exact hP (by omega) | exact hQ (by omega)
  · refine mr_iload_n dX7_isLetter_6 rfl ?_
    refine mr_bipush dX7_isLetter_7 rfl ?_
    refine mr_icmp_gt (tgt := 16) dX7_isLetter_9 (by decide) (by omega) (by omega) (fun hc_9 => ?_) (fun hc_9 => ?_)
    · refine mr_iconst dX7_isLetter_16 ?_
      refine mr_zret rfl (Or.inl rfl) dX7_isLetter_17 ?_
      first | exact hP (by omega) | exact hQ (by omega)
    · refine mr_iconst dX7_isLetter_12 ?_
      refine mr_goto (tgt := 17) dX7_isLetter_13 (by decide) ?_
      refine mr_zret rfl (Or.inr rfl) dX7_isLetter_17 ?_
      first | exact hP (by omega) | exact hQ (by omega)
def T_X7_together (a : List mr_AV) (w : mr_Wd) (Po : Option mr_AV → mr_Wd → Prop) : Prop := ∃ (x y m : Int), a = [vI x, vI y, vI m] ∧ (0 ≤ x ∧ x ≤ 27000) ∧ (0 ≤ y ∧ y ≤ 27000) ∧ (1 ≤ m ∧ m ≤ 30) ∧ Po (some (vI (mr_tg m x y))) w
set_option maxHeartbeats 4000000 in
set_option maxRecDepth 20000 in
theorem ok_X7_together (l : Launch) (G : mr_G) : mr_Ok l G yX7_together cX7_together 3 (some .int) 0 0 T_X7_together := by
  refine mr_Ok.of (by decide +kernel) ?_
  rintro a w Po ⟨x, y, m, rfl, hx, hy, hm, hP⟩
  refine ⟨Nat.le_of_ble_eq_true rfl, ?_⟩
  show mr_J l G RX7 cX7_together 3 (some .int) 0 0 Po 0 [some (vI x), some (vI y), some (vI m)] [] w
  have hm2 := mr_m2 hm
  have a1 := mr_dvb hx.1 (show 0 < m * m by omega)
  have a2 := mr_dvb hx.1 (show 0 < m by omega)
  have a3 := mr_em (show 0 < m by omega) (x / m)
  have a4 := mr_em (show 0 < m by omega) x
  have b1 := mr_dvb hy.1 (show 0 < m * m by omega)
  have b2 := mr_dvb hy.1 (show 0 < m by omega)
  have b3 := mr_em (show 0 < m by omega) (y / m)
  have b4 := mr_em (show 0 < m by omega) y
  refine mr_iload_n dX7_together_0 rfl ?_
  refine mr_iload_n dX7_together_1 rfl ?_
  refine mr_iload_n dX7_together_2 rfl ?_
  refine mr_imul dX7_together_3 ?_
  refine mr_idivp dX7_together_4 (by omega) (by omega) (by omega) (by omega) ?_
  refine mr_iload_n dX7_together_5 rfl ?_
  refine mr_iload_n dX7_together_6 rfl ?_
  refine mr_iload_n dX7_together_7 rfl ?_
  refine mr_imul dX7_together_8 ?_
  refine mr_idivp dX7_together_9 (by omega) (by omega) (by omega) (by omega) ?_
  refine mr_iadd dX7_together_10 ?_
  refine mr_iload_n dX7_together_11 rfl ?_
  refine mr_iremp dX7_together_12 (by omega) (by omega) (by omega) (by omega) ?_
  refine mr_iload_n dX7_together_13 rfl ?_
  refine mr_imul dX7_together_14 ?_
  refine mr_iload_n dX7_together_15 rfl ?_
  refine mr_imul dX7_together_16 ?_
  refine mr_iload_n dX7_together_17 rfl ?_
  refine mr_iload_n dX7_together_18 rfl ?_
  refine mr_idivp dX7_together_19 (by omega) (by omega) (by omega) (by omega) ?_
  refine mr_iload_n dX7_together_20 rfl ?_
  refine mr_iremp dX7_together_21 (by omega) (by omega) (by omega) (by omega) ?_
  refine mr_iload_n dX7_together_22 rfl ?_
  refine mr_iload_n dX7_together_23 rfl ?_
  refine mr_idivp dX7_together_24 (by omega) (by omega) (by omega) (by omega) ?_
  refine mr_iload_n dX7_together_25 rfl ?_
  refine mr_iremp dX7_together_26 (by omega) (by omega) (by omega) (by omega) ?_
  refine mr_iadd dX7_together_27 ?_
  refine mr_iload_n dX7_together_28 rfl ?_
  refine mr_iremp dX7_together_29 (by omega) (by omega) (by omega) (by omega) ?_
  refine mr_iload_n dX7_together_30 rfl ?_
  refine mr_imul dX7_together_31 ?_
  refine mr_iadd dX7_together_32 ?_
  refine mr_iload_n dX7_together_33 rfl ?_
  refine mr_iload_n dX7_together_34 rfl ?_
  refine mr_iremp dX7_together_35 (by omega) (by omega) (by omega) (by omega) ?_
  refine mr_iload_n dX7_together_36 rfl ?_
  refine mr_iload_n dX7_together_37 rfl ?_
  refine mr_iremp dX7_together_38 (by omega) (by omega) (by omega) (by omega) ?_
  refine mr_iadd dX7_together_39 ?_
  refine mr_iload_n dX7_together_40 rfl ?_
  refine mr_iremp dX7_together_41 (by omega) (by omega) (by omega) (by omega) ?_
  refine mr_iadd dX7_together_42 ?_
  refine mr_iret rfl dX7_together_43 ?_
  exact hP
def T_X7_often (a : List mr_AV) (w : mr_Wd) (Po : Option mr_AV → mr_Wd → Prop) : Prop := ∃ (x y m : Int), a = [vI x, vI y, vI m] ∧ (0 ≤ x ∧ x ≤ 27000) ∧ (0 ≤ y ∧ y ≤ 30) ∧ (1 ≤ m ∧ m ≤ 30) ∧ Po (some (vI (mr_of m x y))) w
set_option maxHeartbeats 4000000 in
set_option maxRecDepth 20000 in
theorem ok_X7_often (l : Launch) (G : mr_G) : mr_Ok l G yX7_often cX7_often 3 (some .int) 0 0 T_X7_often := by
  refine mr_Ok.of (by decide +kernel) ?_
  rintro a w Po ⟨x, y, m, rfl, hx, hy, hm, hP⟩
  refine ⟨Nat.le_of_ble_eq_true rfl, ?_⟩
  show mr_J l G RX7 cX7_often 3 (some .int) 0 0 Po 0 [some (vI x), some (vI y), some (vI m)] [] w
  have hm2 := mr_m2 hm
  have a1 := mr_dvb hx.1 (show 0 < m * m by omega)
  have a2 := mr_dvb hx.1 (show 0 < m by omega)
  have a3 := mr_em (show 0 < m by omega) (x / m)
  have a4 := mr_em (show 0 < m by omega) x
  have p1 := mr_mulb (x := x / (m * m)) (y := y) (A := 27000) (B := 30) (by omega) hy
  have p2 := mr_mulb (x := x / m % m) (y := y) (A := 30) (B := 30) (by omega) hy
  have p3 := mr_mulb (x := x % m) (y := y) (A := 30) (B := 30) (by omega) hy
  refine mr_iload_n dX7_often_0 rfl ?_
  refine mr_iload_n dX7_often_1 rfl ?_
  refine mr_iload_n dX7_often_2 rfl ?_
  refine mr_imul dX7_often_3 ?_
  refine mr_idivp dX7_often_4 (by omega) (by omega) (by omega) (by omega) ?_
  refine mr_iload_n dX7_often_5 rfl ?_
  refine mr_imul dX7_often_6 ?_
  refine mr_iload_n dX7_often_7 rfl ?_
  refine mr_iremp dX7_often_8 (by omega) (by omega) (by omega) (by omega) ?_
  refine mr_iload_n dX7_often_9 rfl ?_
  refine mr_imul dX7_often_10 ?_
  refine mr_iload_n dX7_often_11 rfl ?_
  refine mr_imul dX7_often_12 ?_
  refine mr_iload_n dX7_often_13 rfl ?_
  refine mr_iload_n dX7_often_14 rfl ?_
  refine mr_idivp dX7_often_15 (by omega) (by omega) (by omega) (by omega) ?_
  refine mr_iload_n dX7_often_16 rfl ?_
  refine mr_iremp dX7_often_17 (by omega) (by omega) (by omega) (by omega) ?_
  refine mr_iload_n dX7_often_18 rfl ?_
  refine mr_imul dX7_often_19 ?_
  refine mr_iload_n dX7_often_20 rfl ?_
  refine mr_iremp dX7_often_21 (by omega) (by omega) (by omega) (by omega) ?_
  refine mr_iload_n dX7_often_22 rfl ?_
  refine mr_imul dX7_often_23 ?_
  refine mr_iadd dX7_often_24 ?_
  refine mr_iload_n dX7_often_25 rfl ?_
  refine mr_iload_n dX7_often_26 rfl ?_
  refine mr_iremp dX7_often_27 (by omega) (by omega) (by omega) (by omega) ?_
  refine mr_iload_n dX7_often_28 rfl ?_
  refine mr_imul dX7_often_29 ?_
  refine mr_iload_n dX7_often_30 rfl ?_
  refine mr_iremp dX7_often_31 (by omega) (by omega) (by omega) (by omega) ?_
  refine mr_iadd dX7_often_32 ?_
  refine mr_iret rfl dX7_often_33 ?_
  exact hP
def T_X7_dot (a : List mr_AV) (w : mr_Wd) (Po : Option mr_AV → mr_Wd → Prop) : Prop := ∃ (x y m : Int), a = [vI x, vI y, vI m] ∧ (0 ≤ x ∧ x < m * m * m) ∧ (0 ≤ y ∧ y < m * m * m) ∧ (1 ≤ m ∧ m ≤ 30) ∧ Po (some (vI (mr_dt m x y))) w
set_option maxHeartbeats 4000000 in
set_option maxRecDepth 20000 in
theorem ok_X7_dot (l : Launch) (G : mr_G) : mr_Ok l G yX7_dot cX7_dot 3 (some .int) 0 0 T_X7_dot := by
  refine mr_Ok.of (by decide +kernel) ?_
  rintro a w Po ⟨x, y, m, rfl, hx, hy, hm, hP⟩
  refine ⟨Nat.le_of_ble_eq_true rfl, ?_⟩
  show mr_J l G RX7 cX7_dot 3 (some .int) 0 0 Po 0 [some (vI x), some (vI y), some (vI m)] [] w
  have hm3 := mr_m3 hm
  have hm2 := mr_m2 hm
  have a1 := mr_dvb hx.1 (show 0 < m * m by omega)
  have a2 := mr_dvb hx.1 (show 0 < m by omega)
  have a3 := mr_em (show 0 < m by omega) (x / m)
  have a4 := mr_em (show 0 < m by omega) x
  have b1 := mr_dvb hy.1 (show 0 < m * m by omega)
  have b2 := mr_dvb hy.1 (show 0 < m by omega)
  have b3 := mr_em (show 0 < m by omega) (y / m)
  have b4 := mr_em (show 0 < m by omega) y
  have c1 := mr_dec_box (show 0 < m by omega) hx.1 hx.2 0 (by decide)
  have c2 := mr_dec_box (show 0 < m by omega) hy.1 hy.2 0 (by decide)
  rw [mr_dec_0] at c1 c2
  have p1 := mr_mulb (x := x / (m * m)) (y := y / (m * m)) (A := 30) (B := 30) (by omega) (by omega)
  have p2 := mr_mulb (x := x / m % m) (y := y / m % m) (A := 30) (B := 30) (by omega) (by omega)
  have p3 := mr_mulb (x := x % m) (y := y % m) (A := 30) (B := 30) (by omega) (by omega)
  refine mr_iload_n dX7_dot_0 rfl ?_
  refine mr_iload_n dX7_dot_1 rfl ?_
  refine mr_iload_n dX7_dot_2 rfl ?_
  refine mr_imul dX7_dot_3 ?_
  refine mr_idivp dX7_dot_4 (by omega) (by omega) (by omega) (by omega) ?_
  refine mr_iload_n dX7_dot_5 rfl ?_
  refine mr_iload_n dX7_dot_6 rfl ?_
  refine mr_iload_n dX7_dot_7 rfl ?_
  refine mr_imul dX7_dot_8 ?_
  refine mr_idivp dX7_dot_9 (by omega) (by omega) (by omega) (by omega) ?_
  refine mr_imul dX7_dot_10 ?_
  refine mr_iload_n dX7_dot_11 rfl ?_
  refine mr_iload_n dX7_dot_12 rfl ?_
  refine mr_idivp dX7_dot_13 (by omega) (by omega) (by omega) (by omega) ?_
  refine mr_iload_n dX7_dot_14 rfl ?_
  refine mr_iremp dX7_dot_15 (by omega) (by omega) (by omega) (by omega) ?_
  refine mr_iload_n dX7_dot_16 rfl ?_
  refine mr_iload_n dX7_dot_17 rfl ?_
  refine mr_idivp dX7_dot_18 (by omega) (by omega) (by omega) (by omega) ?_
  refine mr_iload_n dX7_dot_19 rfl ?_
  refine mr_iremp dX7_dot_20 (by omega) (by omega) (by omega) (by omega) ?_
  refine mr_imul dX7_dot_21 ?_
  refine mr_iadd dX7_dot_22 ?_
  refine mr_iload_n dX7_dot_23 rfl ?_
  refine mr_iload_n dX7_dot_24 rfl ?_
  refine mr_iremp dX7_dot_25 (by omega) (by omega) (by omega) (by omega) ?_
  refine mr_iload_n dX7_dot_26 rfl ?_
  refine mr_iload_n dX7_dot_27 rfl ?_
  refine mr_iremp dX7_dot_28 (by omega) (by omega) (by omega) (by omega) ?_
  refine mr_imul dX7_dot_29 ?_
  refine mr_iadd dX7_dot_30 ?_
  refine mr_iload_n dX7_dot_31 rfl ?_
  refine mr_iremp dX7_dot_32 (by omega) (by omega) (by omega) (by omega) ?_
  refine mr_iret rfl dX7_dot_33 ?_
  exact hP
def mr_four (x y z t : Int) : Int := 27 * (27 * (27 * (x - 96) + y - 96) + z - 96) + t - 96
def T_X7_four (a : List mr_AV) (w : mr_Wd) (Po : Option mr_AV → mr_Wd → Prop) : Prop := ∃ (x y z t : Int), a = [vI x, vI y, vI z, vI t] ∧ InR x ∧ InR y ∧ InR z ∧ InR t ∧ Po (some (vL (mr_four x y z t))) w
set_option maxHeartbeats 4000000 in
set_option maxRecDepth 20000 in
theorem ok_X7_four (l : Launch) (G : mr_G) : mr_Ok l G yX7_four cX7_four 4 (some .long) 0 0 T_X7_four := by
  refine mr_Ok.of (by decide +kernel) ?_
  rintro a w Po ⟨x, y, z, t, rfl, hx, hy, hz, ht, hP⟩
  refine ⟨Nat.le_of_ble_eq_true rfl, ?_⟩
  show mr_J l G RX7 cX7_four 4 (some .long) 0 0 Po 0 [some (vI x), some (vI y), some (vI z), some (vI t)] [] w
  refine mr_ldc2 dX7_four_0 kc_X7_48 ?_
  refine mr_ldc2 dX7_four_3 kc_X7_48 ?_
  refine mr_ldc2 dX7_four_6 kc_X7_48 ?_
  refine mr_iload_n dX7_four_9 rfl ?_
  refine mr_i2l dX7_four_10 hx ?_
  refine mr_ldc2 dX7_four_11 kc_X7_50 ?_
  refine mr_lsub dX7_four_14 ?_
  refine mr_lmul dX7_four_15 ?_
  refine mr_iload_n dX7_four_16 rfl ?_
  refine mr_i2l dX7_four_17 hy ?_
  refine mr_ladd dX7_four_18 ?_
  refine mr_ldc2 dX7_four_19 kc_X7_50 ?_
  refine mr_lsub dX7_four_22 ?_
  refine mr_lmul dX7_four_23 ?_
  refine mr_iload_n dX7_four_24 rfl ?_
  refine mr_i2l dX7_four_25 hz ?_
  refine mr_ladd dX7_four_26 ?_
  refine mr_ldc2 dX7_four_27 kc_X7_50 ?_
  refine mr_lsub dX7_four_30 ?_
  refine mr_lmul dX7_four_31 ?_
  refine mr_iload_n dX7_four_32 rfl ?_
  refine mr_i2l dX7_four_33 ht ?_
  refine mr_ladd dX7_four_34 ?_
  refine mr_ldc2 dX7_four_35 kc_X7_50 ?_
  refine mr_lsub dX7_four_38 ?_
  refine mr_lret rfl dX7_four_39 ?_
  exact hP
def T_X7_by (a : List mr_AV) (w : mr_Wd) (Po : Option mr_AV → mr_Wd → Prop) : Prop := ∃ (th tp sz zo fr kd nb ft pl wd sm md li sd : Int) (N : Nat → Int), a = [vR 18 0] ∧ w 18 = eMo th tp sz zo fr kd nb ft pl wd sm md li sd ∧ w 20 = eA 0 21 N ∧ Po (some (vI (N 0))) w
set_option maxHeartbeats 4000000 in
set_option maxRecDepth 20000 in
theorem ok_X7_by (l : Launch) (G : mr_G) : mr_Ok l G yX7_by cX7_by 1 (some .int) 0 0 T_X7_by := by
  refine mr_Ok.of (by decide +kernel) ?_
  rintro a w Po ⟨th, tp, sz, zo, fr, kd, nb, ft, pl, wd, sm, md, li, sd, N, rfl, h18, h20, hP⟩
  refine ⟨Nat.le_of_ble_eq_true rfl, ?_⟩
  show mr_J l G RX7 cX7_by 1 (some .int) 0 0 Po 0 [some (vR 18 0)] [] w
  refine mr_aload_n dX7_by_0 rfl ?_
  refine mr_get dX7_by_1 fl_X7_86 (by first | assumption | exact mr_up_same _ _ _ | (refine mr_lk ?_ (by first | assumption | decide); first | assumption | exact mr_up_same _ _ _ | (refine mr_lk ?_ (by first | assumption | decide); first | assumption | exact mr_up_same _ _ _ | (refine mr_lk ?_ (by first | assumption | decide); first | assumption | exact mr_up_same _ _ _ | (refine mr_lk ?_ (by first | assumption | decide); first | assumption | exact mr_up_same _ _ _))))) rfl ?_
  refine mr_iconst dX7_by_4 ?_
  refine mr_iald dX7_by_5 (by first | assumption | exact mr_up_same _ _ _ | (refine mr_lk ?_ (by first | assumption | decide); first | assumption | exact mr_up_same _ _ _ | (refine mr_lk ?_ (by first | assumption | decide); first | assumption | exact mr_up_same _ _ _ | (refine mr_lk ?_ (by first | assumption | decide); first | assumption | exact mr_up_same _ _ _ | (refine mr_lk ?_ (by first | assumption | decide); first | assumption | exact mr_up_same _ _ _))))) (by omega) (by omega) (by decide) ?_
  refine mr_iret rfl dX7_by_6 ?_
  exact hP
def T_X7_equations (a : List mr_AV) (w : mr_Wd) (Po : Option mr_AV → mr_Wd → Prop) : Prop := ∃ (th tp sz zo fr kd nb ft pl wd sm md li sd : Int) (N : Nat → Int), a = [vR 18 0] ∧ w 18 = eMo th tp sz zo fr kd nb ft pl wd sm md li sd ∧ w 20 = eA 0 21 N ∧ Po (some (vI (N 14))) w
set_option maxHeartbeats 4000000 in
set_option maxRecDepth 20000 in
theorem ok_X7_equations (l : Launch) (G : mr_G) : mr_Ok l G yX7_equations cX7_equations 1 (some .int) 0 0 T_X7_equations := by
  refine mr_Ok.of (by decide +kernel) ?_
  rintro a w Po ⟨th, tp, sz, zo, fr, kd, nb, ft, pl, wd, sm, md, li, sd, N, rfl, h18, h20, hP⟩
  refine ⟨Nat.le_of_ble_eq_true rfl, ?_⟩
  show mr_J l G RX7 cX7_equations 1 (some .int) 0 0 Po 0 [some (vR 18 0)] [] w
  refine mr_aload_n dX7_equations_0 rfl ?_
  refine mr_get dX7_equations_1 fl_X7_86 (by first | assumption | exact mr_up_same _ _ _ | (refine mr_lk ?_ (by first | assumption | decide); first | assumption | exact mr_up_same _ _ _ | (refine mr_lk ?_ (by first | assumption | decide); first | assumption | exact mr_up_same _ _ _ | (refine mr_lk ?_ (by first | assumption | decide); first | assumption | exact mr_up_same _ _ _ | (refine mr_lk ?_ (by first | assumption | decide); first | assumption | exact mr_up_same _ _ _))))) rfl ?_
  refine mr_bipush dX7_equations_4 rfl ?_
  refine mr_iald dX7_equations_6 (by first | assumption | exact mr_up_same _ _ _ | (refine mr_lk ?_ (by first | assumption | decide); first | assumption | exact mr_up_same _ _ _ | (refine mr_lk ?_ (by first | assumption | decide); first | assumption | exact mr_up_same _ _ _ | (refine mr_lk ?_ (by first | assumption | decide); first | assumption | exact mr_up_same _ _ _ | (refine mr_lk ?_ (by first | assumption | decide); first | assumption | exact mr_up_same _ _ _))))) (by omega) (by omega) (by decide) ?_
  refine mr_iret rfl dX7_equations_7 ?_
  exact hP
def T_X7_thrown (a : List mr_AV) (w : mr_Wd) (Po : Option mr_AV → mr_Wd → Prop) : Prop := ∃ (th tp sz zo fr kd nb ft pl wd sm md li sd : Int), a = [vR 18 0] ∧ w 18 = eMo th tp sz zo fr kd nb ft pl wd sm md li sd ∧ Po (some (vI th)) w
set_option maxHeartbeats 4000000 in
set_option maxRecDepth 20000 in
theorem ok_X7_thrown (l : Launch) (G : mr_G) : mr_Ok l G yX7_thrown cX7_thrown 1 (some .int) 0 0 T_X7_thrown := by
  refine mr_Ok.of (by decide +kernel) ?_
  rintro a w Po ⟨th, tp, sz, zo, fr, kd, nb, ft, pl, wd, sm, md, li, sd, rfl, h18, hP⟩
  refine ⟨Nat.le_of_ble_eq_true rfl, ?_⟩
  show mr_J l G RX7 cX7_thrown 1 (some .int) 0 0 Po 0 [some (vR 18 0)] [] w
  refine mr_aload_n dX7_thrown_0 rfl ?_
  refine mr_get dX7_thrown_1 fl_X7_1 (by first | assumption | exact mr_up_same _ _ _ | (refine mr_lk ?_ (by first | assumption | decide); first | assumption | exact mr_up_same _ _ _ | (refine mr_lk ?_ (by first | assumption | decide); first | assumption | exact mr_up_same _ _ _ | (refine mr_lk ?_ (by first | assumption | decide); first | assumption | exact mr_up_same _ _ _ | (refine mr_lk ?_ (by first | assumption | decide); first | assumption | exact mr_up_same _ _ _))))) rfl ?_
  refine mr_iret rfl dX7_thrown_4 ?_
  exact hP
def T_X7_step (a : List mr_AV) (w : mr_Wd) (Po : Option mr_AV → mr_Wd → Prop) : Prop := ∃ (q : Nat) (N : Nat → Int), a = [vR q 0] ∧ w q = eA 0 21 N ∧ (0 ≤ N 1 ∧ N 1 ≤ 3) ∧ Po (some (vI (if N 1 = 3 then 1 else if N 1 = 2 then N 0 else N 0 * N 0))) w
set_option maxHeartbeats 4000000 in
set_option maxRecDepth 20000 in
theorem ok_X7_step (l : Launch) (G : mr_G) : mr_Ok l G yX7_step cX7_step 1 (some .int) 0 0 T_X7_step := by
  refine mr_Ok.of (by decide +kernel) ?_
  rintro a w Po ⟨q, N, rfl, hq, h1, hP⟩
  refine ⟨Nat.le_of_ble_eq_true rfl, ?_⟩
  show mr_J l G RX7 cX7_step 1 (some .int) 0 0 Po 0 [some (vR q 0)] [] w
  refine mr_aload_n dX7_step_0 rfl ?_
  refine mr_iconst dX7_step_1 ?_
  refine mr_iald dX7_step_2 (by first | assumption | exact mr_up_same _ _ _ | (refine mr_lk ?_ (by first | assumption | decide); first | assumption | exact mr_up_same _ _ _ | (refine mr_lk ?_ (by first | assumption | decide); first | assumption | exact mr_up_same _ _ _ | (refine mr_lk ?_ (by first | assumption | decide); first | assumption | exact mr_up_same _ _ _ | (refine mr_lk ?_ (by first | assumption | decide); first | assumption | exact mr_up_same _ _ _))))) (by omega) (by omega) (by decide) ?_
  refine mr_iconst dX7_step_3 ?_
  refine mr_icmp_ne (tgt := 11) dX7_step_4 (by decide) ⟨by show -2147483648 ≤ N 1; omega, by show N 1 < 2147483648; omega⟩ (by decide) (fun hc_4 => ?_) (fun hc_4 => ?_)
  · refine mr_aload_n dX7_step_11 rfl ?_
    refine mr_iconst dX7_step_12 ?_
    refine mr_iald dX7_step_13 (by first | assumption | exact mr_up_same _ _ _ | (refine mr_lk ?_ (by first | assumption | decide); first | assumption | exact mr_up_same _ _ _ | (refine mr_lk ?_ (by first | assumption | decide); first | assumption | exact mr_up_same _ _ _ | (refine mr_lk ?_ (by first | assumption | decide); first | assumption | exact mr_up_same _ _ _ | (refine mr_lk ?_ (by first | assumption | decide); first | assumption | exact mr_up_same _ _ _))))) (by omega) (by omega) (by decide) ?_
    refine mr_iconst dX7_step_14 ?_
    refine mr_icmp_ne (tgt := 24) dX7_step_15 (by decide) ⟨by show -2147483648 ≤ N 1; omega, by show N 1 < 2147483648; omega⟩ (by decide) (fun hc_15 => ?_) (fun hc_15 => ?_)
    · refine mr_aload_n dX7_step_24 rfl ?_
      refine mr_iconst dX7_step_25 ?_
      refine mr_iald dX7_step_26 (by first | assumption | exact mr_up_same _ _ _ | (refine mr_lk ?_ (by first | assumption | decide); first | assumption | exact mr_up_same _ _ _ | (refine mr_lk ?_ (by first | assumption | decide); first | assumption | exact mr_up_same _ _ _ | (refine mr_lk ?_ (by first | assumption | decide); first | assumption | exact mr_up_same _ _ _ | (refine mr_lk ?_ (by first | assumption | decide); first | assumption | exact mr_up_same _ _ _))))) (by omega) (by omega) (by decide) ?_
      refine mr_aload_n dX7_step_27 rfl ?_
      refine mr_iconst dX7_step_28 ?_
      refine mr_iald dX7_step_29 (by first | assumption | exact mr_up_same _ _ _ | (refine mr_lk ?_ (by first | assumption | decide); first | assumption | exact mr_up_same _ _ _ | (refine mr_lk ?_ (by first | assumption | decide); first | assumption | exact mr_up_same _ _ _ | (refine mr_lk ?_ (by first | assumption | decide); first | assumption | exact mr_up_same _ _ _ | (refine mr_lk ?_ (by first | assumption | decide); first | assumption | exact mr_up_same _ _ _))))) (by omega) (by omega) (by decide) ?_
      refine mr_imul dX7_step_30 ?_
      refine mr_iret rfl dX7_step_31 ?_
      have e1 : N (Int.toNat 1) = N 1 := rfl
      first | (rw [if_pos (by omega)] at hP; exact hP) | (rw [if_neg (by omega), if_pos (by omega)] at hP; exact hP) | (rw [if_neg (by omega), if_neg (by omega)] at hP; exact hP)
    · refine mr_aload_n dX7_step_18 rfl ?_
      refine mr_iconst dX7_step_19 ?_
      refine mr_iald dX7_step_20 (by first | assumption | exact mr_up_same _ _ _ | (refine mr_lk ?_ (by first | assumption | decide); first | assumption | exact mr_up_same _ _ _ | (refine mr_lk ?_ (by first | assumption | decide); first | assumption | exact mr_up_same _ _ _ | (refine mr_lk ?_ (by first | assumption | decide); first | assumption | exact mr_up_same _ _ _ | (refine mr_lk ?_ (by first | assumption | decide); first | assumption | exact mr_up_same _ _ _))))) (by omega) (by omega) (by decide) ?_
      refine mr_goto (tgt := 31) dX7_step_21 (by decide) ?_
      refine mr_iret rfl dX7_step_31 ?_
      have e1 : N (Int.toNat 1) = N 1 := rfl
      first | (rw [if_pos (by omega)] at hP; exact hP) | (rw [if_neg (by omega), if_pos (by omega)] at hP; exact hP) | (rw [if_neg (by omega), if_neg (by omega)] at hP; exact hP)
  · refine mr_iconst dX7_step_7 ?_
    refine mr_goto (tgt := 31) dX7_step_8 (by decide) ?_
    refine mr_iret rfl dX7_step_31 ?_
    have e1 : N (Int.toNat 1) = N 1 := rfl
    first | (rw [if_pos (by omega)] at hP; exact hP) | (rw [if_neg (by omega), if_pos (by omega)] at hP; exact hP) | (rw [if_neg (by omega), if_neg (by omega)] at hP; exact hP)
def T_X7_end_ (a : List mr_AV) (w : mr_Wd) (Po : Option mr_AV → mr_Wd → Prop) : Prop := ∃ (q : Nat) (N : Nat → Int), a = [vR q 0] ∧ w q = eA 0 21 N ∧ Po (some (vI (N 0 * N 0 * N 0))) w
set_option maxHeartbeats 4000000 in
set_option maxRecDepth 20000 in
theorem ok_X7_end_ (l : Launch) (G : mr_G) : mr_Ok l G yX7_end_ cX7_end_ 1 (some .int) 0 0 T_X7_end_ := by
  refine mr_Ok.of (by decide +kernel) ?_
  rintro a w Po ⟨q, N, rfl, hq, hP⟩
  refine ⟨Nat.le_of_ble_eq_true rfl, ?_⟩
  show mr_J l G RX7 cX7_end_ 1 (some .int) 0 0 Po 0 [some (vR q 0)] [] w
  refine mr_aload_n dX7_end__0 rfl ?_
  refine mr_iconst dX7_end__1 ?_
  refine mr_iald dX7_end__2 (by first | assumption | exact mr_up_same _ _ _ | (refine mr_lk ?_ (by first | assumption | decide); first | assumption | exact mr_up_same _ _ _ | (refine mr_lk ?_ (by first | assumption | decide); first | assumption | exact mr_up_same _ _ _ | (refine mr_lk ?_ (by first | assumption | decide); first | assumption | exact mr_up_same _ _ _ | (refine mr_lk ?_ (by first | assumption | decide); first | assumption | exact mr_up_same _ _ _))))) (by omega) (by omega) (by decide) ?_
  refine mr_aload_n dX7_end__3 rfl ?_
  refine mr_iconst dX7_end__4 ?_
  refine mr_iald dX7_end__5 (by first | assumption | exact mr_up_same _ _ _ | (refine mr_lk ?_ (by first | assumption | decide); first | assumption | exact mr_up_same _ _ _ | (refine mr_lk ?_ (by first | assumption | decide); first | assumption | exact mr_up_same _ _ _ | (refine mr_lk ?_ (by first | assumption | decide); first | assumption | exact mr_up_same _ _ _ | (refine mr_lk ?_ (by first | assumption | decide); first | assumption | exact mr_up_same _ _ _))))) (by omega) (by omega) (by decide) ?_
  refine mr_imul dX7_end__6 ?_
  refine mr_aload_n dX7_end__7 rfl ?_
  refine mr_iconst dX7_end__8 ?_
  refine mr_iald dX7_end__9 (by first | assumption | exact mr_up_same _ _ _ | (refine mr_lk ?_ (by first | assumption | decide); first | assumption | exact mr_up_same _ _ _ | (refine mr_lk ?_ (by first | assumption | decide); first | assumption | exact mr_up_same _ _ _ | (refine mr_lk ?_ (by first | assumption | decide); first | assumption | exact mr_up_same _ _ _ | (refine mr_lk ?_ (by first | assumption | decide); first | assumption | exact mr_up_same _ _ _))))) (by omega) (by omega) (by decide) ?_
  refine mr_imul dX7_end__10 ?_
  refine mr_iret rfl dX7_end__11 ?_
  exact hP
def T_X7_isModuleAt (a : List mr_AV) (w : mr_Wd) (Po : Option mr_AV → mr_Wd → Prop) : Prop := ∃ (th tp sz zo fr kd nb ft pl wd sm md li sd : Int) (N : Nat → Int) (t : Int), a = [vR 18 0, vI t] ∧ w 18 = eMo th tp sz zo fr kd nb ft pl wd sm md li sd ∧ w 20 = eA 0 21 N ∧ InR t ∧ (0 ≤ N 0 ∧ N 0 ≤ 30) ∧ (0 < N 0 ∧ 0 ≤ t ∧ t ≤ 3 → Po (some (vI 1)) w) ∧ (¬ (0 < N 0 ∧ 0 ≤ t ∧ t ≤ 3) → Po (some (vI 0)) w)
set_option maxHeartbeats 4000000 in
set_option maxRecDepth 20000 in
theorem ok_X7_isModuleAt (l : Launch) (G : mr_G) : mr_Ok l G yX7_isModuleAt cX7_isModuleAt 2 (some .boolean) 1 22 T_X7_isModuleAt := by
  refine mr_Ok.of (by decide +kernel) ?_
  rintro a w Po ⟨th, tp, sz, zo, fr, kd, nb, ft, pl, wd, sm, md, li, sd, N, t, rfl, h18, h20, ht, h0, hP, hQ⟩
  refine ⟨Nat.le_of_ble_eq_true rfl, ?_⟩
  show mr_J l G RX7 cX7_isModuleAt 2 (some .boolean) 1 22 Po 0 [some (vR 18 0), some (vI t)] [] w
  refine mr_aload_n dX7_isModuleAt_0 rfl ?_
  refine mr_callV (as := []) dX7_isModuleAt_1 (ok_X7_by l G) ml_X7_195 cl_X7_by cv_X7_by (by decide) rfl rfl (Nat.le_of_ble_eq_true rfl) (by first | assumption | exact mr_up_same _ _ _ | (refine mr_lk ?_ (by first | assumption | decide); first | assumption | exact mr_up_same _ _ _ | (refine mr_lk ?_ (by first | assumption | decide); first | assumption | exact mr_up_same _ _ _ | (refine mr_lk ?_ (by first | assumption | decide); first | assumption | exact mr_up_same _ _ _ | (refine mr_lk ?_ (by first | assumption | decide); first | assumption | exact mr_up_same _ _ _))))) ?_
  refine ⟨_, _, _, _, _, _, _, _, _, _, _, _, _, _, _, rfl, (by first | assumption | exact mr_up_same _ _ _ | (refine mr_lk ?_ (by first | assumption | decide); first | assumption | exact mr_up_same _ _ _ | (refine mr_lk ?_ (by first | assumption | decide); first | assumption | exact mr_up_same _ _ _ | (refine mr_lk ?_ (by first | assumption | decide); first | assumption | exact mr_up_same _ _ _ | (refine mr_lk ?_ (by first | assumption | decide); first | assumption | exact mr_up_same _ _ _))))), (by first | assumption | exact mr_up_same _ _ _ | (refine mr_lk ?_ (by first | assumption | decide); first | assumption | exact mr_up_same _ _ _ | (refine mr_lk ?_ (by first | assumption | decide); first | assumption | exact mr_up_same _ _ _ | (refine mr_lk ?_ (by first | assumption | decide); first | assumption | exact mr_up_same _ _ _ | (refine mr_lk ?_ (by first | assumption | decide); first | assumption | exact mr_up_same _ _ _))))), ?_⟩
  dsimp only [Option.toList_some, Option.toList_none, List.cons_append, List.nil_append]
  refine mr_if_le (tgt := 20) dX7_isModuleAt_4 (by decide) ⟨by show -2147483648 ≤ N 0; omega, by show N 0 < 2147483648; omega⟩ (fun hc_4 => ?_) (fun hc_4 => ?_)
  · refine mr_iconst dX7_isModuleAt_20 ?_
    refine mr_zret rfl (Or.inl rfl) dX7_isModuleAt_21 ?_
    first | exact hP (by omega) | exact hQ (by omega)
  · refine mr_iload_n dX7_isModuleAt_7 rfl ?_
    refine mr_iconst dX7_isModuleAt_8 ?_
    refine mr_iconst dX7_isModuleAt_9 ?_
    refine mr_callS (as := [_, _, _]) dX7_isModuleAt_10 (ok_X7_isIn l G) ml_X7_117 cl_X7_isIn cs_X7_isIn (by decide) rfl rfl (Nat.le_of_ble_eq_true rfl) ?_
    refine ⟨_, _, _, rfl, ht, (by decide), (by decide), ?_, ?_⟩
    · intro hy
      dsimp only [Option.toList_some, Option.toList_none, List.cons_append, List.nil_append]
      refine mr_if_eq (tgt := 20) dX7_isModuleAt_13 (by decide) (by omega) (fun h => absurd h (by decide)) (fun _ => ?_)
      refine mr_iconst dX7_isModuleAt_16 ?_
      refine mr_goto (tgt := 21) dX7_isModuleAt_17 (by decide) ?_
      refine mr_zret rfl (Or.inr rfl) dX7_isModuleAt_21 ?_
      first | exact hP (by omega) | exact hQ (by omega)
    · intro hy
      dsimp only [Option.toList_some, Option.toList_none, List.cons_append, List.nil_append]
      refine mr_if_eq (tgt := 20) dX7_isModuleAt_13 (by decide) (by omega) (fun _ => ?_) (fun h => absurd h (by decide))
      refine mr_iconst dX7_isModuleAt_20 ?_
      refine mr_zret rfl (Or.inl rfl) dX7_isModuleAt_21 ?_
      first | exact hP (by omega) | exact hQ (by omega)
def T_X7_rowOf (a : List mr_AV) (w : mr_Wd) (Po : Option mr_AV → mr_Wd → Prop) : Prop := ∃ (th tp sz zo fr kd nb ft pl wd sm md li sd : Int) (N : Nat → Int) (x y z : Int), a = [vR 18 0, vI x, vI y, vI z] ∧ w 18 = eMo th tp sz zo fr kd nb ft pl wd sm md li sd ∧ w 20 = eA 0 21 N ∧ InR x ∧ InR y ∧ InR z ∧ (0 ≤ N 0 ∧ N 0 ≤ 30) ∧ (0 ≤ N 1 ∧ N 1 ≤ 3) ∧ (((0 ≤ x ∧ x < N 0) ∧ (0 ≤ y ∧ y < N 0) ∧ (0 ≤ z ∧ z < N 0) ∧ (N 1 < 2 → y = 0) ∧ (N 1 < 3 → z = 0)) → Po (some (vI ((x * N 0 + y) * N 0 + z))) w) ∧ (¬ ((0 ≤ x ∧ x < N 0) ∧ (0 ≤ y ∧ y < N 0) ∧ (0 ≤ z ∧ z < N 0) ∧ (N 1 < 2 → y = 0) ∧ (N 1 < 3 → z = 0)) → Po (some (vI (-1))) w)
set_option maxHeartbeats 4000000 in
set_option maxRecDepth 20000 in
theorem ok_X7_rowOf (l : Launch) (G : mr_G) : mr_Ok l G yX7_rowOf cX7_rowOf 5 (some .int) 1 22 T_X7_rowOf := by
  refine mr_Ok.of (by decide +kernel) ?_
  rintro a w Po ⟨th, tp, sz, zo, fr, kd, nb, ft, pl, wd, sm, md, li, sd, N, x, y, z, rfl, h18, h20, hx, hy, hz, h0, h1, hP, hQ⟩
  refine ⟨Nat.le_of_ble_eq_true rfl, ?_⟩
  show mr_J l G RX7 cX7_rowOf 5 (some .int) 1 22 Po 0 [some (vR 18 0), some (vI x), some (vI y), some (vI z), none] [] w
  have e1 : N (Int.toNat 1) = N 1 := rfl
  refine mr_aload_n dX7_rowOf_0 rfl ?_
  refine mr_callV (as := []) dX7_rowOf_1 (ok_X7_by l G) ml_X7_195 cl_X7_by cv_X7_by (by decide) rfl rfl (Nat.le_of_ble_eq_true rfl) (by first | assumption | exact mr_up_same _ _ _ | (refine mr_lk ?_ (by first | assumption | decide); first | assumption | exact mr_up_same _ _ _ | (refine mr_lk ?_ (by first | assumption | decide); first | assumption | exact mr_up_same _ _ _ | (refine mr_lk ?_ (by first | assumption | decide); first | assumption | exact mr_up_same _ _ _ | (refine mr_lk ?_ (by first | assumption | decide); first | assumption | exact mr_up_same _ _ _))))) ?_
  refine ⟨_, _, _, _, _, _, _, _, _, _, _, _, _, _, _, rfl, (by first | assumption | exact mr_up_same _ _ _ | (refine mr_lk ?_ (by first | assumption | decide); first | assumption | exact mr_up_same _ _ _ | (refine mr_lk ?_ (by first | assumption | decide); first | assumption | exact mr_up_same _ _ _ | (refine mr_lk ?_ (by first | assumption | decide); first | assumption | exact mr_up_same _ _ _ | (refine mr_lk ?_ (by first | assumption | decide); first | assumption | exact mr_up_same _ _ _))))), (by first | assumption | exact mr_up_same _ _ _ | (refine mr_lk ?_ (by first | assumption | decide); first | assumption | exact mr_up_same _ _ _ | (refine mr_lk ?_ (by first | assumption | decide); first | assumption | exact mr_up_same _ _ _ | (refine mr_lk ?_ (by first | assumption | decide); first | assumption | exact mr_up_same _ _ _ | (refine mr_lk ?_ (by first | assumption | decide); first | assumption | exact mr_up_same _ _ _))))), ?_⟩
  dsimp only [Option.toList_some, Option.toList_none, List.cons_append, List.nil_append]
  refine mr_istore dX7_rowOf_4 rfl (by decide) ?_
  refine mr_iload_n dX7_rowOf_6 rfl ?_
  refine mr_iconst dX7_rowOf_7 ?_
  refine mr_iload dX7_rowOf_8 rfl ?_
  refine mr_iconst dX7_rowOf_10 ?_
  refine mr_isub dX7_rowOf_11 ?_
  refine mr_callS (as := [_, _, _]) dX7_rowOf_12 (ok_X7_isIn l G) ml_X7_117 cl_X7_isIn cs_X7_isIn (by decide) rfl rfl (Nat.le_of_ble_eq_true rfl) ?_
  refine ⟨_, _, _, rfl, hx, (by decide), ⟨by omega, by omega⟩, ?_, ?_⟩
  · intro k1
    dsimp only [Option.toList_some, Option.toList_none, List.cons_append, List.nil_append]
    refine mr_if_eq (tgt := 70) dX7_rowOf_15 (by decide) (by omega) (fun h => absurd h (by decide)) (fun _ => ?_)
    refine mr_iload_n dX7_rowOf_18 rfl ?_
    refine mr_iconst dX7_rowOf_19 ?_
    refine mr_iload dX7_rowOf_20 rfl ?_
    refine mr_iconst dX7_rowOf_22 ?_
    refine mr_isub dX7_rowOf_23 ?_
    refine mr_callS (as := [_, _, _]) dX7_rowOf_24 (ok_X7_isIn l G) ml_X7_117 cl_X7_isIn cs_X7_isIn (by decide) rfl rfl (Nat.le_of_ble_eq_true rfl) ?_
    refine ⟨_, _, _, rfl, hy, (by decide), ⟨by omega, by omega⟩, ?_, ?_⟩
    · intro k2
      dsimp only [Option.toList_some, Option.toList_none, List.cons_append, List.nil_append]
      refine mr_if_eq (tgt := 70) dX7_rowOf_27 (by decide) (by omega) (fun h => absurd h (by decide)) (fun _ => ?_)
      refine mr_iload_n dX7_rowOf_30 rfl ?_
      refine mr_iconst dX7_rowOf_31 ?_
      refine mr_iload dX7_rowOf_32 rfl ?_
      refine mr_iconst dX7_rowOf_34 ?_
      refine mr_isub dX7_rowOf_35 ?_
      refine mr_callS (as := [_, _, _]) dX7_rowOf_36 (ok_X7_isIn l G) ml_X7_117 cl_X7_isIn cs_X7_isIn (by decide) rfl rfl (Nat.le_of_ble_eq_true rfl) ?_
      refine ⟨_, _, _, rfl, hz, (by decide), ⟨by omega, by omega⟩, ?_, ?_⟩
      · intro k3
        dsimp only [Option.toList_some, Option.toList_none, List.cons_append, List.nil_append]
        refine mr_if_eq (tgt := 70) dX7_rowOf_39 (by decide) (by omega) (fun h => absurd h (by decide)) (fun _ => ?_)
        refine mr_aload_n dX7_rowOf_42 rfl ?_
        refine mr_get dX7_rowOf_43 fl_X7_86 (by first | assumption | exact mr_up_same _ _ _ | (refine mr_lk ?_ (by first | assumption | decide); first | assumption | exact mr_up_same _ _ _ | (refine mr_lk ?_ (by first | assumption | decide); first | assumption | exact mr_up_same _ _ _ | (refine mr_lk ?_ (by first | assumption | decide); first | assumption | exact mr_up_same _ _ _ | (refine mr_lk ?_ (by first | assumption | decide); first | assumption | exact mr_up_same _ _ _))))) rfl ?_
        refine mr_iconst dX7_rowOf_46 ?_
        refine mr_iald dX7_rowOf_47 (by first | assumption | exact mr_up_same _ _ _ | (refine mr_lk ?_ (by first | assumption | decide); first | assumption | exact mr_up_same _ _ _ | (refine mr_lk ?_ (by first | assumption | decide); first | assumption | exact mr_up_same _ _ _ | (refine mr_lk ?_ (by first | assumption | decide); first | assumption | exact mr_up_same _ _ _ | (refine mr_lk ?_ (by first | assumption | decide); first | assumption | exact mr_up_same _ _ _))))) (by omega) (by omega) (by decide) ?_
        refine mr_iconst dX7_rowOf_48 ?_
        refine mr_icmp_ge (tgt := 56) dX7_rowOf_49 (by decide) ⟨by show -2147483648 ≤ N 1; omega, by show N 1 < 2147483648; omega⟩ (by decide) (fun hc_49 => ?_) (fun hc_49 => ?_)
        · refine mr_aload_n dX7_rowOf_56 rfl ?_
          refine mr_get dX7_rowOf_57 fl_X7_86 (by first | assumption | exact mr_up_same _ _ _ | (refine mr_lk ?_ (by first | assumption | decide); first | assumption | exact mr_up_same _ _ _ | (refine mr_lk ?_ (by first | assumption | decide); first | assumption | exact mr_up_same _ _ _ | (refine mr_lk ?_ (by first | assumption | decide); first | assumption | exact mr_up_same _ _ _ | (refine mr_lk ?_ (by first | assumption | decide); first | assumption | exact mr_up_same _ _ _))))) rfl ?_
          refine mr_iconst dX7_rowOf_60 ?_
          refine mr_iald dX7_rowOf_61 (by first | assumption | exact mr_up_same _ _ _ | (refine mr_lk ?_ (by first | assumption | decide); first | assumption | exact mr_up_same _ _ _ | (refine mr_lk ?_ (by first | assumption | decide); first | assumption | exact mr_up_same _ _ _ | (refine mr_lk ?_ (by first | assumption | decide); first | assumption | exact mr_up_same _ _ _ | (refine mr_lk ?_ (by first | assumption | decide); first | assumption | exact mr_up_same _ _ _))))) (by omega) (by omega) (by decide) ?_
          refine mr_iconst dX7_rowOf_62 ?_
          refine mr_icmp_ge (tgt := 72) dX7_rowOf_63 (by decide) ⟨by show -2147483648 ≤ N 1; omega, by show N 1 < 2147483648; omega⟩ (by decide) (fun hc_63 => ?_) (fun hc_63 => ?_)
          · refine mr_iload_n dX7_rowOf_72 rfl ?_
            refine mr_iload dX7_rowOf_73 rfl ?_
            refine mr_imul dX7_rowOf_75 ?_
            refine mr_iload_n dX7_rowOf_76 rfl ?_
            refine mr_iadd dX7_rowOf_77 ?_
            refine mr_iload dX7_rowOf_78 rfl ?_
            refine mr_imul dX7_rowOf_80 ?_
            refine mr_iload_n dX7_rowOf_81 rfl ?_
            refine mr_iadd dX7_rowOf_82 ?_
            refine mr_iret rfl dX7_rowOf_83 ?_
            first | exact hP ⟨by omega, by omega, by omega, by omega, by omega⟩ | exact hQ (fun z => by omega)
          · refine mr_iload_n dX7_rowOf_66 rfl ?_
            refine mr_if_le (tgt := 72) dX7_rowOf_67 (by decide) hz (fun hc_67 => ?_) (fun hc_67 => ?_)
            · refine mr_iload_n dX7_rowOf_72 rfl ?_
              refine mr_iload dX7_rowOf_73 rfl ?_
              refine mr_imul dX7_rowOf_75 ?_
              refine mr_iload_n dX7_rowOf_76 rfl ?_
              refine mr_iadd dX7_rowOf_77 ?_
              refine mr_iload dX7_rowOf_78 rfl ?_
              refine mr_imul dX7_rowOf_80 ?_
              refine mr_iload_n dX7_rowOf_81 rfl ?_
              refine mr_iadd dX7_rowOf_82 ?_
              refine mr_iret rfl dX7_rowOf_83 ?_
              first | exact hP ⟨by omega, by omega, by omega, by omega, by omega⟩ | exact hQ (fun z => by omega)
            · refine mr_iconst dX7_rowOf_70 ?_
              refine mr_iret rfl dX7_rowOf_71 ?_
              first | exact hP ⟨by omega, by omega, by omega, by omega, by omega⟩ | exact hQ (fun z => by omega)
        · refine mr_iload_n dX7_rowOf_52 rfl ?_
          refine mr_if_gt (tgt := 70) dX7_rowOf_53 (by decide) hy (fun hc_53 => ?_) (fun hc_53 => ?_)
          · refine mr_iconst dX7_rowOf_70 ?_
            refine mr_iret rfl dX7_rowOf_71 ?_
            first | exact hP ⟨by omega, by omega, by omega, by omega, by omega⟩ | exact hQ (fun z => by omega)
          · refine mr_aload_n dX7_rowOf_56 rfl ?_
            refine mr_get dX7_rowOf_57 fl_X7_86 (by first | assumption | exact mr_up_same _ _ _ | (refine mr_lk ?_ (by first | assumption | decide); first | assumption | exact mr_up_same _ _ _ | (refine mr_lk ?_ (by first | assumption | decide); first | assumption | exact mr_up_same _ _ _ | (refine mr_lk ?_ (by first | assumption | decide); first | assumption | exact mr_up_same _ _ _ | (refine mr_lk ?_ (by first | assumption | decide); first | assumption | exact mr_up_same _ _ _))))) rfl ?_
            refine mr_iconst dX7_rowOf_60 ?_
            refine mr_iald dX7_rowOf_61 (by first | assumption | exact mr_up_same _ _ _ | (refine mr_lk ?_ (by first | assumption | decide); first | assumption | exact mr_up_same _ _ _ | (refine mr_lk ?_ (by first | assumption | decide); first | assumption | exact mr_up_same _ _ _ | (refine mr_lk ?_ (by first | assumption | decide); first | assumption | exact mr_up_same _ _ _ | (refine mr_lk ?_ (by first | assumption | decide); first | assumption | exact mr_up_same _ _ _))))) (by omega) (by omega) (by decide) ?_
            refine mr_iconst dX7_rowOf_62 ?_
            refine mr_icmp_ge (tgt := 72) dX7_rowOf_63 (by decide) ⟨by show -2147483648 ≤ N 1; omega, by show N 1 < 2147483648; omega⟩ (by decide) (fun hc_63 => ?_) (fun hc_63 => ?_)
            · refine mr_iload_n dX7_rowOf_72 rfl ?_
              refine mr_iload dX7_rowOf_73 rfl ?_
              refine mr_imul dX7_rowOf_75 ?_
              refine mr_iload_n dX7_rowOf_76 rfl ?_
              refine mr_iadd dX7_rowOf_77 ?_
              refine mr_iload dX7_rowOf_78 rfl ?_
              refine mr_imul dX7_rowOf_80 ?_
              refine mr_iload_n dX7_rowOf_81 rfl ?_
              refine mr_iadd dX7_rowOf_82 ?_
              refine mr_iret rfl dX7_rowOf_83 ?_
              first | exact hP ⟨by omega, by omega, by omega, by omega, by omega⟩ | exact hQ (fun z => by omega)
            · refine mr_iload_n dX7_rowOf_66 rfl ?_
              refine mr_if_le (tgt := 72) dX7_rowOf_67 (by decide) hz (fun hc_67 => ?_) (fun hc_67 => ?_)
              · refine mr_iload_n dX7_rowOf_72 rfl ?_
                refine mr_iload dX7_rowOf_73 rfl ?_
                refine mr_imul dX7_rowOf_75 ?_
                refine mr_iload_n dX7_rowOf_76 rfl ?_
                refine mr_iadd dX7_rowOf_77 ?_
                refine mr_iload dX7_rowOf_78 rfl ?_
                refine mr_imul dX7_rowOf_80 ?_
                refine mr_iload_n dX7_rowOf_81 rfl ?_
                refine mr_iadd dX7_rowOf_82 ?_
                refine mr_iret rfl dX7_rowOf_83 ?_
                first | exact hP ⟨by omega, by omega, by omega, by omega, by omega⟩ | exact hQ (fun z => by omega)
              · refine mr_iconst dX7_rowOf_70 ?_
                refine mr_iret rfl dX7_rowOf_71 ?_
                first | exact hP ⟨by omega, by omega, by omega, by omega, by omega⟩ | exact hQ (fun z => by omega)
      · intro k3
        dsimp only [Option.toList_some, Option.toList_none, List.cons_append, List.nil_append]
        refine mr_if_eq (tgt := 70) dX7_rowOf_39 (by decide) (by omega) (fun _ => ?_) (fun h => absurd h (by decide))
        refine mr_iconst dX7_rowOf_70 ?_
        refine mr_iret rfl dX7_rowOf_71 ?_
        first | exact hP ⟨by omega, by omega, by omega, by omega, by omega⟩ | exact hQ (fun z => by omega)
    · intro k2
      dsimp only [Option.toList_some, Option.toList_none, List.cons_append, List.nil_append]
      refine mr_if_eq (tgt := 70) dX7_rowOf_27 (by decide) (by omega) (fun _ => ?_) (fun h => absurd h (by decide))
      refine mr_iconst dX7_rowOf_70 ?_
      refine mr_iret rfl dX7_rowOf_71 ?_
      first | exact hP ⟨by omega, by omega, by omega, by omega, by omega⟩ | exact hQ (fun z => by omega)
  · intro k1
    dsimp only [Option.toList_some, Option.toList_none, List.cons_append, List.nil_append]
    refine mr_if_eq (tgt := 70) dX7_rowOf_15 (by decide) (by omega) (fun _ => ?_) (fun h => absurd h (by decide))
    refine mr_iconst dX7_rowOf_70 ?_
    refine mr_iret rfl dX7_rowOf_71 ?_
    first | exact hP ⟨by omega, by omega, by omega, by omega, by omega⟩ | exact hQ (fun z => by omega)
def mr_tbk (m r : Int) : Int := 10000 * (r / (m * m)) + 100 * (r / m % m) + r % m
def T_X7_toldBack (a : List mr_AV) (w : mr_Wd) (Po : Option mr_AV → mr_Wd → Prop) : Prop := ∃ (th tp sz zo fr kd nb ft pl wd sm md li sd : Int) (N : Nat → Int) (x : Int), a = [vR 18 0, vI x] ∧ w 18 = eMo th tp sz zo fr kd nb ft pl wd sm md li sd ∧ w 20 = eA 0 21 N ∧ (0 ≤ x ∧ x ≤ 27000) ∧ (1 ≤ N 0 ∧ N 0 ≤ 30) ∧ Po (some (vI (mr_tbk (N 0) x))) w
set_option maxHeartbeats 4000000 in
set_option maxRecDepth 20000 in
theorem ok_X7_toldBack (l : Launch) (G : mr_G) : mr_Ok l G yX7_toldBack cX7_toldBack 3 (some .int) 1 20 T_X7_toldBack := by
  refine mr_Ok.of (by decide +kernel) ?_
  rintro a w Po ⟨th, tp, sz, zo, fr, kd, nb, ft, pl, wd, sm, md, li, sd, N, x, rfl, h18, h20, hx, h0, hP⟩
  refine ⟨Nat.le_of_ble_eq_true rfl, ?_⟩
  show mr_J l G RX7 cX7_toldBack 3 (some .int) 1 20 Po 0 [some (vR 18 0), some (vI x), none] [] w
  have hm2 := mr_m2 h0
  have a1 := mr_dvb hx.1 (show 0 < N 0 * N 0 by omega)
  have a2 := mr_dvb hx.1 (show 0 < N 0 by omega)
  refine mr_aload_n dX7_toldBack_0 rfl ?_
  refine mr_callV (as := []) dX7_toldBack_1 (ok_X7_by l G) ml_X7_195 cl_X7_by cv_X7_by (by decide) rfl rfl (Nat.le_of_ble_eq_true rfl) (by first | assumption | exact mr_up_same _ _ _ | (refine mr_lk ?_ (by first | assumption | decide); first | assumption | exact mr_up_same _ _ _ | (refine mr_lk ?_ (by first | assumption | decide); first | assumption | exact mr_up_same _ _ _ | (refine mr_lk ?_ (by first | assumption | decide); first | assumption | exact mr_up_same _ _ _ | (refine mr_lk ?_ (by first | assumption | decide); first | assumption | exact mr_up_same _ _ _))))) ?_
  refine ⟨_, _, _, _, _, _, _, _, _, _, _, _, _, _, _, rfl, (by first | assumption | exact mr_up_same _ _ _ | (refine mr_lk ?_ (by first | assumption | decide); first | assumption | exact mr_up_same _ _ _ | (refine mr_lk ?_ (by first | assumption | decide); first | assumption | exact mr_up_same _ _ _ | (refine mr_lk ?_ (by first | assumption | decide); first | assumption | exact mr_up_same _ _ _ | (refine mr_lk ?_ (by first | assumption | decide); first | assumption | exact mr_up_same _ _ _))))), (by first | assumption | exact mr_up_same _ _ _ | (refine mr_lk ?_ (by first | assumption | decide); first | assumption | exact mr_up_same _ _ _ | (refine mr_lk ?_ (by first | assumption | decide); first | assumption | exact mr_up_same _ _ _ | (refine mr_lk ?_ (by first | assumption | decide); first | assumption | exact mr_up_same _ _ _ | (refine mr_lk ?_ (by first | assumption | decide); first | assumption | exact mr_up_same _ _ _))))), ?_⟩
  dsimp only [Option.toList_some, Option.toList_none, List.cons_append, List.nil_append]
  refine mr_istore_n dX7_toldBack_4 rfl (by decide) ?_
  refine mr_sipush dX7_toldBack_5 rfl ?_
  refine mr_iload_n dX7_toldBack_8 rfl ?_
  refine mr_iload_n dX7_toldBack_9 rfl ?_
  refine mr_iload_n dX7_toldBack_10 rfl ?_
  refine mr_imul dX7_toldBack_11 ?_
  refine mr_idivp dX7_toldBack_12 (by omega) (by omega) (by omega) (by omega) ?_
  refine mr_imul dX7_toldBack_13 ?_
  refine mr_bipush dX7_toldBack_14 rfl ?_
  refine mr_iload_n dX7_toldBack_16 rfl ?_
  refine mr_iload_n dX7_toldBack_17 rfl ?_
  refine mr_idivp dX7_toldBack_18 (by omega) (by omega) (by omega) (by omega) ?_
  refine mr_iload_n dX7_toldBack_19 rfl ?_
  refine mr_iremp dX7_toldBack_20 (by omega) (by omega) (by omega) (by omega) ?_
  refine mr_imul dX7_toldBack_21 ?_
  refine mr_iadd dX7_toldBack_22 ?_
  refine mr_iload_n dX7_toldBack_23 rfl ?_
  refine mr_iload_n dX7_toldBack_24 rfl ?_
  refine mr_iremp dX7_toldBack_25 (by omega) (by omega) (by omega) (by omega) ?_
  refine mr_iadd dX7_toldBack_26 ?_
  refine mr_iret rfl dX7_toldBack_27 ?_
  exact hP
def mr_stp (N : Nat → Int) : Int := if N 1 = 3 then 1 else if N 1 = 2 then N 0 else N 0 * N 0
theorem mr_stp_bd {N : Nat → Int} (h0 : 1 ≤ N 0 ∧ N 0 ≤ 30) : 1 ≤ mr_stp N ∧ mr_stp N ≤ 900 := by
  have := mr_m2 h0
  unfold mr_stp
  split
  · omega
  · split <;> omega
def T_X7_isRow (a : List mr_AV) (w : mr_Wd) (Po : Option mr_AV → mr_Wd → Prop) : Prop := ∃ (th tp sz zo fr kd nb ft pl wd sm md li sd : Int) (N : Nat → Int) (x : Int), a = [vR 18 0, vI x] ∧ w 18 = eMo th tp sz zo fr kd nb ft pl wd sm md li sd ∧ w 20 = eA 0 21 N ∧ (0 ≤ x ∧ x ≤ 27000) ∧ (1 ≤ N 0 ∧ N 0 ≤ 30) ∧ (0 ≤ N 1 ∧ N 1 ≤ 3) ∧ (x % mr_stp N = 0 → Po (some (vI 1)) w) ∧ (¬ (x % mr_stp N = 0) → Po (some (vI 0)) w)
set_option maxHeartbeats 4000000 in
set_option maxRecDepth 20000 in
theorem ok_X7_isRow (l : Launch) (G : mr_G) : mr_Ok l G yX7_isRow cX7_isRow 2 (some .boolean) 1 20 T_X7_isRow := by
  refine mr_Ok.of (by decide +kernel) ?_
  rintro a w Po ⟨th, tp, sz, zo, fr, kd, nb, ft, pl, wd, sm, md, li, sd, N, x, rfl, h18, h20, hx, h0, h1, hP, hQ⟩
  refine ⟨Nat.le_of_ble_eq_true rfl, ?_⟩
  show mr_J l G RX7 cX7_isRow 2 (some .boolean) 1 20 Po 0 [some (vR 18 0), some (vI x)] [] w
  have hs := mr_stp_bd h0
  have hs2 := mr_em (show 0 < mr_stp N by omega) x
  refine mr_iload_n dX7_isRow_0 rfl ?_
  refine mr_aload_n dX7_isRow_1 rfl ?_
  refine mr_get dX7_isRow_2 fl_X7_86 (by first | assumption | exact mr_up_same _ _ _ | (refine mr_lk ?_ (by first | assumption | decide); first | assumption | exact mr_up_same _ _ _ | (refine mr_lk ?_ (by first | assumption | decide); first | assumption | exact mr_up_same _ _ _ | (refine mr_lk ?_ (by first | assumption | decide); first | assumption | exact mr_up_same _ _ _ | (refine mr_lk ?_ (by first | assumption | decide); first | assumption | exact mr_up_same _ _ _))))) rfl ?_
  refine mr_callS (as := [_]) dX7_isRow_5 (ok_X7_step l G) ml_X7_230 cl_X7_step cs_X7_step (by decide) rfl rfl (Nat.le_of_ble_eq_true rfl) ?_
  refine ⟨_, _, rfl, (by first | assumption | exact mr_up_same _ _ _ | (refine mr_lk ?_ (by first | assumption | decide); first | assumption | exact mr_up_same _ _ _ | (refine mr_lk ?_ (by first | assumption | decide); first | assumption | exact mr_up_same _ _ _ | (refine mr_lk ?_ (by first | assumption | decide); first | assumption | exact mr_up_same _ _ _ | (refine mr_lk ?_ (by first | assumption | decide); first | assumption | exact mr_up_same _ _ _))))), h1, ?_⟩
  rw [show (if N 1 = 3 then (1 : Int) else if N 1 = 2 then N 0 else N 0 * N 0) = mr_stp N from rfl]
  dsimp only [Option.toList_some, Option.toList_none, List.cons_append, List.nil_append]
  refine mr_iremp dX7_isRow_8 (by omega) (by omega) (by omega) (by omega) ?_
  refine mr_if_ne (tgt := 16) dX7_isRow_9 (by decide) ⟨by omega, by omega⟩ (fun hc_9 => ?_) (fun hc_9 => ?_)
  · refine mr_iconst dX7_isRow_16 ?_
    refine mr_zret rfl (Or.inl rfl) dX7_isRow_17 ?_
    first | exact hP (by omega) | exact hQ (by omega)
  · refine mr_iconst dX7_isRow_12 ?_
    refine mr_goto (tgt := 17) dX7_isRow_13 (by decide) ?_
    refine mr_zret rfl (Or.inr rfl) dX7_isRow_17 ?_
    first | exact hP (by omega) | exact hQ (by omega)
def T_X7_refuse (a : List mr_AV) (w : mr_Wd) (Po : Option mr_AV → mr_Wd → Prop) : Prop := ∃ (th tp sz zo fr kd nb ft pl wd sm md li sd : Int) (T N R K Sn ik s1 s2 ls : Nat → Int), a = [vR 18 0] ∧ mr_MW w th tp sz zo fr kd nb ft pl wd sm md li sd T N R K Sn ik s1 s2 ls ∧ (∀ w' : mr_Wd, mr_MW w' (1) tp sz zo fr kd nb ft pl wd sm md li sd T N R K Sn ik s1 s2 ls → mr_FM w w' → Po (some (vI 0)) w')
set_option maxHeartbeats 4000000 in
set_option maxRecDepth 20000 in
theorem ok_X7_refuse (l : Launch) (G : mr_G) : mr_Ok l G yX7_refuse cX7_refuse 1 (some .int) 0 0 T_X7_refuse := by
  refine mr_Ok.of (by decide +kernel) ?_
  rintro a w Po ⟨th, tp, sz, zo, fr, kd, nb, ft, pl, wd, sm, md, li, sd, T, N, R, K, Sn, ik, s1, s2, ls, rfl, hM, hP⟩
  refine ⟨Nat.le_of_ble_eq_true rfl, ?_⟩
  show mr_J l G RX7 cX7_refuse 1 (some .int) 0 0 Po 0 [some (vR 18 0)] [] w
  obtain ⟨h18, h19, h20, h21, h22, h23, h24, h25, h26, h27, hs1, hs2, hik⟩ := id hM
  refine mr_aload_n dX7_refuse_0 rfl ?_
  refine mr_iconst dX7_refuse_1 ?_
  refine mr_put dX7_refuse_2 fl_X7_1 pf_X7_0 rfl rfl (by first | assumption | exact mr_up_same _ _ _ | (refine mr_lk ?_ (by first | assumption | decide); first | assumption | exact mr_up_same _ _ _ | (refine mr_lk ?_ (by first | assumption | decide); first | assumption | exact mr_up_same _ _ _ | (refine mr_lk ?_ (by first | assumption | decide); first | assumption | exact mr_up_same _ _ _ | (refine mr_lk ?_ (by first | assumption | decide); first | assumption | exact mr_up_same _ _ _))))) (Nat.le_of_ble_eq_true rfl) ?_
  refine mw_p0 hM (fun w1 hM1 hF1 => ?_)
  obtain ⟨h18, h19, h20, h21, h22, h23, h24, h25, h26, h27, hs1, hs2, hik⟩ := id hM1
  refine mr_iconst dX7_refuse_5 ?_
  refine mr_iret rfl dX7_refuse_6 ?_
  exact hP w1 hM1 hF1
def T_X7_bad (a : List mr_AV) (w : mr_Wd) (Po : Option mr_AV → mr_Wd → Prop) : Prop := ∃ (th tp sz zo fr kd nb ft pl wd sm md li sd : Int) (T N R K Sn ik s1 s2 ls : Nat → Int) (x : Int), a = [vR 18 0, vI x] ∧ mr_MW w th tp sz zo fr kd nb ft pl wd sm md li sd T N R K Sn ik s1 s2 ls ∧ InR kd ∧ (∀ w' : mr_Wd, mr_MW w' th tp sz zo fr kd nb (if kd = 1 then 1 else x) (fr) wd sm md li sd T N R K Sn ik s1 s2 ls → mr_FM w w' → Po (some (vI 0)) w')
set_option maxHeartbeats 4000000 in
set_option maxRecDepth 20000 in
theorem ok_X7_bad (l : Launch) (G : mr_G) : mr_Ok l G yX7_bad cX7_bad 2 (some .boolean) 0 0 T_X7_bad := by
  refine mr_Ok.of (by decide +kernel) ?_
  rintro a w Po ⟨th, tp, sz, zo, fr, kd, nb, ft, pl, wd, sm, md, li, sd, T, N, R, K, Sn, ik, s1, s2, ls, x, rfl, hM, hk, hP⟩
  refine ⟨Nat.le_of_ble_eq_true rfl, ?_⟩
  show mr_J l G RX7 cX7_bad 2 (some .boolean) 0 0 Po 0 [some (vR 18 0), some (vI x)] [] w
  obtain ⟨h18, h19, h20, h21, h22, h23, h24, h25, h26, h27, hs1, hs2, hik⟩ := id hM
  refine mr_aload_n dX7_bad_0 rfl ?_
  refine mr_aload_n dX7_bad_1 rfl ?_
  refine mr_get dX7_bad_2 fl_X7_27 (by first | assumption | exact mr_up_same _ _ _ | (refine mr_lk ?_ (by first | assumption | decide); first | assumption | exact mr_up_same _ _ _ | (refine mr_lk ?_ (by first | assumption | decide); first | assumption | exact mr_up_same _ _ _ | (refine mr_lk ?_ (by first | assumption | decide); first | assumption | exact mr_up_same _ _ _ | (refine mr_lk ?_ (by first | assumption | decide); first | assumption | exact mr_up_same _ _ _))))) rfl ?_
  refine mr_iconst dX7_bad_5 ?_
  refine mr_icmp_ne (tgt := 13) dX7_bad_6 (by decide) hk (by decide) (fun hc_6 => ?_) (fun hc_6 => ?_)
  · refine mr_iload_n dX7_bad_13 rfl ?_
    refine mr_put dX7_bad_14 fl_X7_74 pf_X7_8 rfl rfl (by first | assumption | exact mr_up_same _ _ _ | (refine mr_lk ?_ (by first | assumption | decide); first | assumption | exact mr_up_same _ _ _ | (refine mr_lk ?_ (by first | assumption | decide); first | assumption | exact mr_up_same _ _ _ | (refine mr_lk ?_ (by first | assumption | decide); first | assumption | exact mr_up_same _ _ _ | (refine mr_lk ?_ (by first | assumption | decide); first | assumption | exact mr_up_same _ _ _))))) (Nat.le_of_ble_eq_true rfl) ?_
    refine mw_p8 hM (fun w1 hM1 hF1 => ?_)
    obtain ⟨h18, h19, h20, h21, h22, h23, h24, h25, h26, h27, hs1, hs2, hik⟩ := id hM1
    refine mr_aload_n dX7_bad_17 rfl ?_
    refine mr_aload_n dX7_bad_18 rfl ?_
    refine mr_get dX7_bad_19 fl_X7_24 (by first | assumption | exact mr_up_same _ _ _ | (refine mr_lk ?_ (by first | assumption | decide); first | assumption | exact mr_up_same _ _ _ | (refine mr_lk ?_ (by first | assumption | decide); first | assumption | exact mr_up_same _ _ _ | (refine mr_lk ?_ (by first | assumption | decide); first | assumption | exact mr_up_same _ _ _ | (refine mr_lk ?_ (by first | assumption | decide); first | assumption | exact mr_up_same _ _ _))))) rfl ?_
    refine mr_put dX7_bad_22 fl_X7_77 pf_X7_9 rfl rfl (by first | assumption | exact mr_up_same _ _ _ | (refine mr_lk ?_ (by first | assumption | decide); first | assumption | exact mr_up_same _ _ _ | (refine mr_lk ?_ (by first | assumption | decide); first | assumption | exact mr_up_same _ _ _ | (refine mr_lk ?_ (by first | assumption | decide); first | assumption | exact mr_up_same _ _ _ | (refine mr_lk ?_ (by first | assumption | decide); first | assumption | exact mr_up_same _ _ _))))) (Nat.le_of_ble_eq_true rfl) ?_
    refine mw_p9 hM1 (fun w2 hM2 hF2 => ?_)
    obtain ⟨h18, h19, h20, h21, h22, h23, h24, h25, h26, h27, hs1, hs2, hik⟩ := id hM2
    refine mr_iconst dX7_bad_25 ?_
    refine mr_zret rfl (Or.inl rfl) dX7_bad_26 ?_
    first | (rw [if_pos hc_6] at hP; exact hP w2 hM2 (hF1.tr hF2)) | (rw [if_neg hc_6] at hP; exact hP w2 hM2 (hF1.tr hF2))
  · refine mr_iconst dX7_bad_9 ?_
    refine mr_goto (tgt := 14) dX7_bad_10 (by decide) ?_
    refine mr_put dX7_bad_14 fl_X7_74 pf_X7_8 rfl rfl (by first | assumption | exact mr_up_same _ _ _ | (refine mr_lk ?_ (by first | assumption | decide); first | assumption | exact mr_up_same _ _ _ | (refine mr_lk ?_ (by first | assumption | decide); first | assumption | exact mr_up_same _ _ _ | (refine mr_lk ?_ (by first | assumption | decide); first | assumption | exact mr_up_same _ _ _ | (refine mr_lk ?_ (by first | assumption | decide); first | assumption | exact mr_up_same _ _ _))))) (Nat.le_of_ble_eq_true rfl) ?_
    refine mw_p8 hM (fun w3 hM3 hF3 => ?_)
    obtain ⟨h18, h19, h20, h21, h22, h23, h24, h25, h26, h27, hs1, hs2, hik⟩ := id hM3
    refine mr_aload_n dX7_bad_17 rfl ?_
    refine mr_aload_n dX7_bad_18 rfl ?_
    refine mr_get dX7_bad_19 fl_X7_24 (by first | assumption | exact mr_up_same _ _ _ | (refine mr_lk ?_ (by first | assumption | decide); first | assumption | exact mr_up_same _ _ _ | (refine mr_lk ?_ (by first | assumption | decide); first | assumption | exact mr_up_same _ _ _ | (refine mr_lk ?_ (by first | assumption | decide); first | assumption | exact mr_up_same _ _ _ | (refine mr_lk ?_ (by first | assumption | decide); first | assumption | exact mr_up_same _ _ _))))) rfl ?_
    refine mr_put dX7_bad_22 fl_X7_77 pf_X7_9 rfl rfl (by first | assumption | exact mr_up_same _ _ _ | (refine mr_lk ?_ (by first | assumption | decide); first | assumption | exact mr_up_same _ _ _ | (refine mr_lk ?_ (by first | assumption | decide); first | assumption | exact mr_up_same _ _ _ | (refine mr_lk ?_ (by first | assumption | decide); first | assumption | exact mr_up_same _ _ _ | (refine mr_lk ?_ (by first | assumption | decide); first | assumption | exact mr_up_same _ _ _))))) (Nat.le_of_ble_eq_true rfl) ?_
    refine mw_p9 hM3 (fun w4 hM4 hF4 => ?_)
    obtain ⟨h18, h19, h20, h21, h22, h23, h24, h25, h26, h27, hs1, hs2, hik⟩ := id hM4
    refine mr_iconst dX7_bad_25 ?_
    refine mr_zret rfl (Or.inl rfl) dX7_bad_26 ?_
    first | (rw [if_pos hc_6] at hP; exact hP w4 hM4 (hF3.tr hF4)) | (rw [if_neg hc_6] at hP; exact hP w4 hM4 (hF3.tr hF4))
def T_X7_tapeAt (a : List mr_AV) (w : mr_Wd) (Po : Option mr_AV → mr_Wd → Prop) : Prop := ∃ (th tp sz zo fr kd nb ft pl wd sm md li sd : Int) (T : Nat → Int) (x : Int), a = [vR 18 0, vI x] ∧ w 18 = eMo th tp sz zo fr kd nb ft pl wd sm md li sd ∧ w 19 = eA 0 540 T ∧ (0 ≤ sz ∧ sz ≤ 540) ∧ (0 ≤ x ∧ x ≤ 540) ∧ Po (some (vI (if x < sz then T x.toNat else 0))) w
set_option maxHeartbeats 4000000 in
set_option maxRecDepth 20000 in
theorem ok_X7_tapeAt (l : Launch) (G : mr_G) : mr_Ok l G yX7_tapeAt cX7_tapeAt 2 (some .int) 0 0 T_X7_tapeAt := by
  refine mr_Ok.of (by decide +kernel) ?_
  rintro a w Po ⟨th, tp, sz, zo, fr, kd, nb, ft, pl, wd, sm, md, li, sd, T, x, rfl, h18, h19, hz, hx, hP⟩
  refine ⟨Nat.le_of_ble_eq_true rfl, ?_⟩
  show mr_J l G RX7 cX7_tapeAt 2 (some .int) 0 0 Po 0 [some (vR 18 0), some (vI x)] [] w
  refine mr_iload_n dX7_tapeAt_0 rfl ?_
  refine mr_aload_n dX7_tapeAt_1 rfl ?_
  refine mr_get dX7_tapeAt_2 fl_X7_18 (by first | assumption | exact mr_up_same _ _ _ | (refine mr_lk ?_ (by first | assumption | decide); first | assumption | exact mr_up_same _ _ _ | (refine mr_lk ?_ (by first | assumption | decide); first | assumption | exact mr_up_same _ _ _ | (refine mr_lk ?_ (by first | assumption | decide); first | assumption | exact mr_up_same _ _ _ | (refine mr_lk ?_ (by first | assumption | decide); first | assumption | exact mr_up_same _ _ _))))) rfl ?_
  refine mr_icmp_ge (tgt := 17) dX7_tapeAt_5 (by decide) ⟨by omega, by omega⟩ ⟨by omega, by omega⟩ (fun hc_5 => ?_) (fun hc_5 => ?_)
  · refine mr_iconst dX7_tapeAt_17 ?_
    refine mr_iret rfl dX7_tapeAt_18 ?_
    first | (rw [if_pos (by omega)] at hP; exact hP) | (rw [if_neg (by omega)] at hP; exact hP)
  · refine mr_aload_n dX7_tapeAt_8 rfl ?_
    refine mr_get dX7_tapeAt_9 fl_X7_7 (by first | assumption | exact mr_up_same _ _ _ | (refine mr_lk ?_ (by first | assumption | decide); first | assumption | exact mr_up_same _ _ _ | (refine mr_lk ?_ (by first | assumption | decide); first | assumption | exact mr_up_same _ _ _ | (refine mr_lk ?_ (by first | assumption | decide); first | assumption | exact mr_up_same _ _ _ | (refine mr_lk ?_ (by first | assumption | decide); first | assumption | exact mr_up_same _ _ _))))) rfl ?_
    refine mr_iload_n dX7_tapeAt_12 rfl ?_
    refine mr_iald dX7_tapeAt_13 (by first | assumption | exact mr_up_same _ _ _ | (refine mr_lk ?_ (by first | assumption | decide); first | assumption | exact mr_up_same _ _ _ | (refine mr_lk ?_ (by first | assumption | decide); first | assumption | exact mr_up_same _ _ _ | (refine mr_lk ?_ (by first | assumption | decide); first | assumption | exact mr_up_same _ _ _ | (refine mr_lk ?_ (by first | assumption | decide); first | assumption | exact mr_up_same _ _ _))))) (by omega) (by omega) (by decide) ?_
    refine mr_goto (tgt := 18) dX7_tapeAt_14 (by decide) ?_
    refine mr_iret rfl dX7_tapeAt_18 ?_
    first | (rw [if_pos (by omega)] at hP; exact hP) | (rw [if_neg (by omega)] at hP; exact hP)
def T_X7_isWord (a : List mr_AV) (w : mr_Wd) (Po : Option mr_AV → mr_Wd → Prop) : Prop := ∃ (th tp sz zo fr kd nb ft pl wd sm md li sd : Int) (x : Int), a = [vR 18 0, vL x] ∧ w 18 = eMo th tp sz zo fr kd nb ft pl wd sm md li sd ∧ InR kd ∧ InL wd ∧ InL x ∧ (kd = 2 ∧ wd = x → Po (some (vI 1)) w) ∧ (¬ (kd = 2 ∧ wd = x) → Po (some (vI 0)) w)
set_option maxHeartbeats 4000000 in
set_option maxRecDepth 20000 in
theorem ok_X7_isWord (l : Launch) (G : mr_G) : mr_Ok l G yX7_isWord cX7_isWord 3 (some .boolean) 0 0 T_X7_isWord := by
  refine mr_Ok.of (by decide +kernel) ?_
  rintro a w Po ⟨th, tp, sz, zo, fr, kd, nb, ft, pl, wd, sm, md, li, sd, x, rfl, h18, hk, hw, hx, hP, hQ⟩
  refine ⟨Nat.le_of_ble_eq_true rfl, ?_⟩
  show mr_J l G RX7 cX7_isWord 3 (some .boolean) 0 0 Po 0 [some (vR 18 0), some (vL x), none] [] w
  refine mr_aload_n dX7_isWord_0 rfl ?_
  refine mr_get dX7_isWord_1 fl_X7_27 (by first | assumption | exact mr_up_same _ _ _ | (refine mr_lk ?_ (by first | assumption | decide); first | assumption | exact mr_up_same _ _ _ | (refine mr_lk ?_ (by first | assumption | decide); first | assumption | exact mr_up_same _ _ _ | (refine mr_lk ?_ (by first | assumption | decide); first | assumption | exact mr_up_same _ _ _ | (refine mr_lk ?_ (by first | assumption | decide); first | assumption | exact mr_up_same _ _ _))))) rfl ?_
  refine mr_iconst dX7_isWord_4 ?_
  refine mr_icmp_ne (tgt := 21) dX7_isWord_5 (by decide) hk (by decide) (fun hc_5 => ?_) (fun hc_5 => ?_)
  · refine mr_iconst dX7_isWord_21 ?_
    refine mr_zret rfl (Or.inl rfl) dX7_isWord_22 ?_
    first | exact hP ⟨by omega, e_13.mp (by omega)⟩ | exact hQ (fun z => by omega) | exact hQ (fun z => by have := e_13.mpr z.2; omega)
  · refine mr_aload_n dX7_isWord_8 rfl ?_
    refine mr_get dX7_isWord_9 fl_X7_37 (by first | assumption | exact mr_up_same _ _ _ | (refine mr_lk ?_ (by first | assumption | decide); first | assumption | exact mr_up_same _ _ _ | (refine mr_lk ?_ (by first | assumption | decide); first | assumption | exact mr_up_same _ _ _ | (refine mr_lk ?_ (by first | assumption | decide); first | assumption | exact mr_up_same _ _ _ | (refine mr_lk ?_ (by first | assumption | decide); first | assumption | exact mr_up_same _ _ _))))) rfl ?_
    refine mr_lload_n dX7_isWord_12 rfl ?_
    refine mr_lcmp dX7_isWord_13 hw hx (fun q_13 b_13 e_13 => ?_)
    refine mr_if_ne (tgt := 21) dX7_isWord_14 (by decide) ⟨by omega, by omega⟩ (fun hc_14 => ?_) (fun hc_14 => ?_)
    · refine mr_iconst dX7_isWord_21 ?_
      refine mr_zret rfl (Or.inl rfl) dX7_isWord_22 ?_
      first | exact hP ⟨by omega, e_13.mp (by omega)⟩ | exact hQ (fun z => by omega) | exact hQ (fun z => by have := e_13.mpr z.2; omega)
    · refine mr_iconst dX7_isWord_17 ?_
      refine mr_goto (tgt := 22) dX7_isWord_18 (by decide) ?_
      refine mr_zret rfl (Or.inr rfl) dX7_isWord_22 ?_
      first | exact hP ⟨by omega, e_13.mp (by omega)⟩ | exact hQ (fun z => by omega) | exact hQ (fun z => by have := e_13.mpr z.2; omega)
def T_X7_isModulo (a : List mr_AV) (w : mr_Wd) (Po : Option mr_AV → mr_Wd → Prop) : Prop := ∃ (th tp sz zo fr kd nb ft pl wd sm md li sd : Int), a = [vR 18 0] ∧ w 18 = eMo th tp sz zo fr kd nb ft pl wd sm md li sd ∧ InR kd ∧ InL wd ∧ (kd = 2 ∧ wd = 729 * mr_four 109 111 100 117 + 324 + 15 → Po (some (vI 1)) w) ∧ (¬ (kd = 2 ∧ wd = 729 * mr_four 109 111 100 117 + 324 + 15) → Po (some (vI 0)) w)
set_option maxHeartbeats 4000000 in
set_option maxRecDepth 20000 in
theorem ok_X7_isModulo (l : Launch) (G : mr_G) : mr_Ok l G yX7_isModulo cX7_isModulo 1 (some .boolean) 1 23 T_X7_isModulo := by
  refine mr_Ok.of (by decide +kernel) ?_
  rintro a w Po ⟨th, tp, sz, zo, fr, kd, nb, ft, pl, wd, sm, md, li, sd, rfl, h18, hk, hw, hP, hQ⟩
  refine ⟨Nat.le_of_ble_eq_true rfl, ?_⟩
  show mr_J l G RX7 cX7_isModulo 1 (some .boolean) 1 23 Po 0 [some (vR 18 0)] [] w
  refine mr_aload_n dX7_isModulo_0 rfl ?_
  refine mr_ldc2 dX7_isModulo_1 kc_X7_52 ?_
  refine mr_bipush dX7_isModulo_4 rfl ?_
  refine mr_bipush dX7_isModulo_6 rfl ?_
  refine mr_bipush dX7_isModulo_8 rfl ?_
  refine mr_bipush dX7_isModulo_10 rfl ?_
  refine mr_callS (as := [_, _, _, _]) dX7_isModulo_12 (ok_X7_four l G) ml_X7_54 cl_X7_four cs_X7_four (by decide) rfl rfl (Nat.le_of_ble_eq_true rfl) ?_
  refine ⟨_, _, _, _, rfl, (by decide), (by decide), (by decide), (by decide), ?_⟩
  dsimp only [Option.toList_some, Option.toList_none, List.cons_append, List.nil_append]
  refine mr_lmul dX7_isModulo_15 ?_
  refine mr_ldc2 dX7_isModulo_16 kc_X7_58 ?_
  refine mr_ladd dX7_isModulo_19 ?_
  refine mr_ldc2 dX7_isModulo_20 kc_X7_60 ?_
  refine mr_ladd dX7_isModulo_23 ?_
  refine mr_callV (as := [_]) dX7_isModulo_24 (ok_X7_isWord l G) ml_X7_62 cl_X7_isWord cv_X7_isWord (by decide) rfl rfl (Nat.le_of_ble_eq_true rfl) (by first | assumption | exact mr_up_same _ _ _ | (refine mr_lk ?_ (by first | assumption | decide); first | assumption | exact mr_up_same _ _ _ | (refine mr_lk ?_ (by first | assumption | decide); first | assumption | exact mr_up_same _ _ _ | (refine mr_lk ?_ (by first | assumption | decide); first | assumption | exact mr_up_same _ _ _ | (refine mr_lk ?_ (by first | assumption | decide); first | assumption | exact mr_up_same _ _ _))))) ?_
  refine ⟨_, _, _, _, _, _, _, _, _, _, _, _, _, _, _, rfl, h18, hk, hw, (by decide), ?_, ?_⟩
  · intro hy
    dsimp only [Option.toList_some, Option.toList_none, List.cons_append, List.nil_append]
    refine mr_zret rfl (Or.inr rfl) dX7_isModulo_27 ?_
    first | exact hP hy | exact hQ hy
  · intro hy
    dsimp only [Option.toList_some, Option.toList_none, List.cons_append, List.nil_append]
    refine mr_zret rfl (Or.inl rfl) dX7_isModulo_27 ?_
    first | exact hP hy | exact hQ hy
def T_X7_isModule (a : List mr_AV) (w : mr_Wd) (Po : Option mr_AV → mr_Wd → Prop) : Prop := ∃ (th tp sz zo fr kd nb ft pl wd sm md li sd : Int), a = [vR 18 0] ∧ w 18 = eMo th tp sz zo fr kd nb ft pl wd sm md li sd ∧ InR kd ∧ InL wd ∧ (kd = 2 ∧ wd = 729 * mr_four 109 111 100 117 + 324 + 5 → Po (some (vI 1)) w) ∧ (¬ (kd = 2 ∧ wd = 729 * mr_four 109 111 100 117 + 324 + 5) → Po (some (vI 0)) w)
set_option maxHeartbeats 4000000 in
set_option maxRecDepth 20000 in
theorem ok_X7_isModule (l : Launch) (G : mr_G) : mr_Ok l G yX7_isModule cX7_isModule 1 (some .boolean) 1 23 T_X7_isModule := by
  refine mr_Ok.of (by decide +kernel) ?_
  rintro a w Po ⟨th, tp, sz, zo, fr, kd, nb, ft, pl, wd, sm, md, li, sd, rfl, h18, hk, hw, hP, hQ⟩
  refine ⟨Nat.le_of_ble_eq_true rfl, ?_⟩
  show mr_J l G RX7 cX7_isModule 1 (some .boolean) 1 23 Po 0 [some (vR 18 0)] [] w
  refine mr_aload_n dX7_isModule_0 rfl ?_
  refine mr_ldc2 dX7_isModule_1 kc_X7_52 ?_
  refine mr_bipush dX7_isModule_4 rfl ?_
  refine mr_bipush dX7_isModule_6 rfl ?_
  refine mr_bipush dX7_isModule_8 rfl ?_
  refine mr_bipush dX7_isModule_10 rfl ?_
  refine mr_callS (as := [_, _, _, _]) dX7_isModule_12 (ok_X7_four l G) ml_X7_54 cl_X7_four cs_X7_four (by decide) rfl rfl (Nat.le_of_ble_eq_true rfl) ?_
  refine ⟨_, _, _, _, rfl, (by decide), (by decide), (by decide), (by decide), ?_⟩
  dsimp only [Option.toList_some, Option.toList_none, List.cons_append, List.nil_append]
  refine mr_lmul dX7_isModule_15 ?_
  refine mr_ldc2 dX7_isModule_16 kc_X7_58 ?_
  refine mr_ladd dX7_isModule_19 ?_
  refine mr_ldc2 dX7_isModule_20 kc_X7_66 ?_
  refine mr_ladd dX7_isModule_23 ?_
  refine mr_callV (as := [_]) dX7_isModule_24 (ok_X7_isWord l G) ml_X7_62 cl_X7_isWord cv_X7_isWord (by decide) rfl rfl (Nat.le_of_ble_eq_true rfl) (by first | assumption | exact mr_up_same _ _ _ | (refine mr_lk ?_ (by first | assumption | decide); first | assumption | exact mr_up_same _ _ _ | (refine mr_lk ?_ (by first | assumption | decide); first | assumption | exact mr_up_same _ _ _ | (refine mr_lk ?_ (by first | assumption | decide); first | assumption | exact mr_up_same _ _ _ | (refine mr_lk ?_ (by first | assumption | decide); first | assumption | exact mr_up_same _ _ _))))) ?_
  refine ⟨_, _, _, _, _, _, _, _, _, _, _, _, _, _, _, rfl, h18, hk, hw, (by decide), ?_, ?_⟩
  · intro hy
    dsimp only [Option.toList_some, Option.toList_none, List.cons_append, List.nil_append]
    refine mr_zret rfl (Or.inr rfl) dX7_isModule_27 ?_
    first | exact hP hy | exact hQ hy
  · intro hy
    dsimp only [Option.toList_some, Option.toList_none, List.cons_append, List.nil_append]
    refine mr_zret rfl (Or.inl rfl) dX7_isModule_27 ?_
    first | exact hP hy | exact hQ hy
def T_X7_isEquation (a : List mr_AV) (w : mr_Wd) (Po : Option mr_AV → mr_Wd → Prop) : Prop := ∃ (th tp sz zo fr kd nb ft pl wd sm md li sd : Int), a = [vR 18 0] ∧ w 18 = eMo th tp sz zo fr kd nb ft pl wd sm md li sd ∧ InR kd ∧ InL wd ∧ (kd = 2 ∧ wd = 531441 * mr_four 101 113 117 97 + mr_four 116 105 111 110 → Po (some (vI 1)) w) ∧ (¬ (kd = 2 ∧ wd = 531441 * mr_four 101 113 117 97 + mr_four 116 105 111 110) → Po (some (vI 0)) w)
set_option maxHeartbeats 4000000 in
set_option maxRecDepth 20000 in
theorem ok_X7_isEquation (l : Launch) (G : mr_G) : mr_Ok l G yX7_isEquation cX7_isEquation 1 (some .boolean) 1 23 T_X7_isEquation := by
  refine mr_Ok.of (by decide +kernel) ?_
  rintro a w Po ⟨th, tp, sz, zo, fr, kd, nb, ft, pl, wd, sm, md, li, sd, rfl, h18, hk, hw, hP, hQ⟩
  refine ⟨Nat.le_of_ble_eq_true rfl, ?_⟩
  show mr_J l G RX7 cX7_isEquation 1 (some .boolean) 1 23 Po 0 [some (vR 18 0)] [] w
  refine mr_aload_n dX7_isEquation_0 rfl ?_
  refine mr_ldc2 dX7_isEquation_1 kc_X7_68 ?_
  refine mr_bipush dX7_isEquation_4 rfl ?_
  refine mr_bipush dX7_isEquation_6 rfl ?_
  refine mr_bipush dX7_isEquation_8 rfl ?_
  refine mr_bipush dX7_isEquation_10 rfl ?_
  refine mr_callS (as := [_, _, _, _]) dX7_isEquation_12 (ok_X7_four l G) ml_X7_54 cl_X7_four cs_X7_four (by decide) rfl rfl (Nat.le_of_ble_eq_true rfl) ?_
  refine ⟨_, _, _, _, rfl, (by decide), (by decide), (by decide), (by decide), ?_⟩
  dsimp only [Option.toList_some, Option.toList_none, List.cons_append, List.nil_append]
  refine mr_lmul dX7_isEquation_15 ?_
  refine mr_bipush dX7_isEquation_16 rfl ?_
  refine mr_bipush dX7_isEquation_18 rfl ?_
  refine mr_bipush dX7_isEquation_20 rfl ?_
  refine mr_bipush dX7_isEquation_22 rfl ?_
  refine mr_callS (as := [_, _, _, _]) dX7_isEquation_24 (ok_X7_four l G) ml_X7_54 cl_X7_four cs_X7_four (by decide) rfl rfl (Nat.le_of_ble_eq_true rfl) ?_
  refine ⟨_, _, _, _, rfl, (by decide), (by decide), (by decide), (by decide), ?_⟩
  dsimp only [Option.toList_some, Option.toList_none, List.cons_append, List.nil_append]
  refine mr_ladd dX7_isEquation_27 ?_
  refine mr_callV (as := [_]) dX7_isEquation_28 (ok_X7_isWord l G) ml_X7_62 cl_X7_isWord cv_X7_isWord (by decide) rfl rfl (Nat.le_of_ble_eq_true rfl) (by first | assumption | exact mr_up_same _ _ _ | (refine mr_lk ?_ (by first | assumption | decide); first | assumption | exact mr_up_same _ _ _ | (refine mr_lk ?_ (by first | assumption | decide); first | assumption | exact mr_up_same _ _ _ | (refine mr_lk ?_ (by first | assumption | decide); first | assumption | exact mr_up_same _ _ _ | (refine mr_lk ?_ (by first | assumption | decide); first | assumption | exact mr_up_same _ _ _))))) ?_
  refine ⟨_, _, _, _, _, _, _, _, _, _, _, _, _, _, _, rfl, h18, hk, hw, (by decide), ?_, ?_⟩
  · intro hy
    dsimp only [Option.toList_some, Option.toList_none, List.cons_append, List.nil_append]
    refine mr_zret rfl (Or.inr rfl) dX7_isEquation_31 ?_
    first | exact hP hy | exact hQ hy
  · intro hy
    dsimp only [Option.toList_some, Option.toList_none, List.cons_append, List.nil_append]
    refine mr_zret rfl (Or.inl rfl) dX7_isEquation_31 ?_
    first | exact hP hy | exact hQ hy
def T_X7_isRowWord (a : List mr_AV) (w : mr_Wd) (Po : Option mr_AV → mr_Wd → Prop) : Prop := ∃ (th tp sz zo fr kd nb ft pl wd sm md li sd : Int), a = [vR 18 0] ∧ w 18 = eMo th tp sz zo fr kd nb ft pl wd sm md li sd ∧ InR kd ∧ InL wd ∧ (kd = 2 ∧ wd = 13550 → Po (some (vI 1)) w) ∧ (¬ (kd = 2 ∧ wd = 13550) → Po (some (vI 0)) w)
set_option maxHeartbeats 4000000 in
set_option maxRecDepth 20000 in
theorem ok_X7_isRowWord (l : Launch) (G : mr_G) : mr_Ok l G yX7_isRowWord cX7_isRowWord 1 (some .boolean) 1 22 T_X7_isRowWord := by
  refine mr_Ok.of (by decide +kernel) ?_
  rintro a w Po ⟨th, tp, sz, zo, fr, kd, nb, ft, pl, wd, sm, md, li, sd, rfl, h18, hk, hw, hP, hQ⟩
  refine ⟨Nat.le_of_ble_eq_true rfl, ?_⟩
  show mr_J l G RX7 cX7_isRowWord 1 (some .boolean) 1 22 Po 0 [some (vR 18 0)] [] w
  refine mr_aload_n dX7_isRowWord_0 rfl ?_
  refine mr_ldc2 dX7_isRowWord_1 kc_X7_70 ?_
  refine mr_callV (as := [_]) dX7_isRowWord_4 (ok_X7_isWord l G) ml_X7_62 cl_X7_isWord cv_X7_isWord (by decide) rfl rfl (Nat.le_of_ble_eq_true rfl) (by first | assumption | exact mr_up_same _ _ _ | (refine mr_lk ?_ (by first | assumption | decide); first | assumption | exact mr_up_same _ _ _ | (refine mr_lk ?_ (by first | assumption | decide); first | assumption | exact mr_up_same _ _ _ | (refine mr_lk ?_ (by first | assumption | decide); first | assumption | exact mr_up_same _ _ _ | (refine mr_lk ?_ (by first | assumption | decide); first | assumption | exact mr_up_same _ _ _))))) ?_
  refine ⟨_, _, _, _, _, _, _, _, _, _, _, _, _, _, _, rfl, h18, hk, hw, (by decide), ?_, ?_⟩
  · intro hy
    dsimp only [Option.toList_some, Option.toList_none, List.cons_append, List.nil_append]
    refine mr_zret rfl (Or.inr rfl) dX7_isRowWord_7 ?_
    first | exact hP hy | exact hQ hy
  · intro hy
    dsimp only [Option.toList_some, Option.toList_none, List.cons_append, List.nil_append]
    refine mr_zret rfl (Or.inl rfl) dX7_isRowWord_7 ?_
    first | exact hP hy | exact hQ hy
def T_X7_isIs (a : List mr_AV) (w : mr_Wd) (Po : Option mr_AV → mr_Wd → Prop) : Prop := ∃ (th tp sz zo fr kd nb ft pl wd sm md li sd : Int), a = [vR 18 0] ∧ w 18 = eMo th tp sz zo fr kd nb ft pl wd sm md li sd ∧ InR kd ∧ InL wd ∧ (kd = 2 ∧ wd = 262 → Po (some (vI 1)) w) ∧ (¬ (kd = 2 ∧ wd = 262) → Po (some (vI 0)) w)
set_option maxHeartbeats 4000000 in
set_option maxRecDepth 20000 in
theorem ok_X7_isIs (l : Launch) (G : mr_G) : mr_Ok l G yX7_isIs cX7_isIs 1 (some .boolean) 1 22 T_X7_isIs := by
  refine mr_Ok.of (by decide +kernel) ?_
  rintro a w Po ⟨th, tp, sz, zo, fr, kd, nb, ft, pl, wd, sm, md, li, sd, rfl, h18, hk, hw, hP, hQ⟩
  refine ⟨Nat.le_of_ble_eq_true rfl, ?_⟩
  show mr_J l G RX7 cX7_isIs 1 (some .boolean) 1 22 Po 0 [some (vR 18 0)] [] w
  refine mr_aload_n dX7_isIs_0 rfl ?_
  refine mr_ldc2 dX7_isIs_1 kc_X7_72 ?_
  refine mr_callV (as := [_]) dX7_isIs_4 (ok_X7_isWord l G) ml_X7_62 cl_X7_isWord cv_X7_isWord (by decide) rfl rfl (Nat.le_of_ble_eq_true rfl) (by first | assumption | exact mr_up_same _ _ _ | (refine mr_lk ?_ (by first | assumption | decide); first | assumption | exact mr_up_same _ _ _ | (refine mr_lk ?_ (by first | assumption | decide); first | assumption | exact mr_up_same _ _ _ | (refine mr_lk ?_ (by first | assumption | decide); first | assumption | exact mr_up_same _ _ _ | (refine mr_lk ?_ (by first | assumption | decide); first | assumption | exact mr_up_same _ _ _))))) ?_
  refine ⟨_, _, _, _, _, _, _, _, _, _, _, _, _, _, _, rfl, h18, hk, hw, (by decide), ?_, ?_⟩
  · intro hy
    dsimp only [Option.toList_some, Option.toList_none, List.cons_append, List.nil_append]
    refine mr_zret rfl (Or.inr rfl) dX7_isIs_7 ?_
    first | exact hP hy | exact hQ hy
  · intro hy
    dsimp only [Option.toList_some, Option.toList_none, List.cons_append, List.nil_append]
    refine mr_zret rfl (Or.inl rfl) dX7_isIs_7 ?_
    first | exact hP hy | exact hQ hy
