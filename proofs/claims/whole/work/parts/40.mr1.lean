/-! MODULEROWS: its state, and what its calls do to it. -/
abbrev eX0 (fk sd : Int) : mr_AE := eO 6 [vR 1 0, vR 3 0, vR 5 0, vR 7 0, vR 11 0, vR 15 0, vR 16 0, vR 17 0, vI fk, vI sd]
abbrev mr_SX : Type := Int × (Nat → Int) × (Nat → Int) × Int × Int × (Nat → Nat → Int) × (Nat → Nat → Int) × (Nat → Int) × Int
def mr_XS (w : mr_Wd) (q : mr_SX) : Prop := match q with
  | (n0, g, f, nx, ct, S, I, im, fk) => (∃ sd : Int, w 0 = eX0 fk sd) ∧ w 1 = eO 5 [vR 2 0, vI n0] ∧ w 2 = eA 2 540 g ∧ w 3 = eO 0 [vR (3 + 1) 0] ∧ w (3 + 1) = eA 0 51 f ∧ w 5 = eO 1 [vR 6 0, vI nx, vI ct] ∧ w 6 = eM 8 51 S ∧ w 7 = eO 3 [vR 8 0] ∧ (∃ (m cl ct : Int) (R F : Nat → Nat → Int), mr_SH w m cl ct R F) ∧ (∃ v k s n op sl ln md a b : Int, w 11 = eRD v k s n op sl ln md a b ∧ (0 ≤ v ∧ v ≤ 99) ∧ (0 ≤ sl ∧ sl ≤ 20)) ∧ w 12 = eO 0 [vR (12 + 1) 0] ∧ (∃ f' : Nat → Int, w (12 + 1) = eA 0 51 f') ∧ (∃ nm : Nat → Int, w 14 = eA 0 3 nm ∧ mr_Rd nm) ∧ w 15 = eM 2 51 I ∧ w 16 = eA 1 2 im ∧ (∃ r : Nat → Int, w 17 = eA 0 3 r) ∧ (0 ≤ n0 ∧ n0 ≤ 540) ∧ mr_Bd f ∧ (0 ≤ nx ∧ nx < 8) ∧ (0 ≤ ct ∧ ct ≤ 8) ∧ (∀ i : Nat, mr_Bd (S i)) ∧ (∀ i : Nat, mr_Bd (I i)) ∧ (∀ i : Nat, im i = 0 ∨ im i = 1) ∧ (0 ≤ fk ∧ fk ≤ 3)
/-- beyond the class nothing is touched -/
def mr_Fr (w w' : mr_Wd) : Prop := ∀ k : Nat, 18 ≤ k → w' k = w k
theorem mr_Fr.rf (w : mr_Wd) : mr_Fr w w := fun _ _ => rfl
theorem mr_Fr.up {w w' : mr_Wd} (h : mr_Fr w w') {k : Nat} (e : mr_AE) (hk : k < 18) : mr_Fr w (mr_up w' k e) := fun q hq => (mr_up_ne _ _ (by omega)).trans (h q hq)
theorem mr_Fr.S {w w' : mr_Wd} (h : mr_Fr w w') (m cl ct : Int) (R F : Nat → Nat → Int) : mr_Fr w (mr_wS w' m cl ct R F) := fun q hq => (mr_wS_ne _ _ _ _ _ _ (by omega)).trans (h q hq)
theorem mr_Fr.tr {w w' w2 : mr_Wd} (h : mr_Fr w w') (h2 : mr_Fr w' w2) : mr_Fr w w2 := fun q hq => (h2 q hq).trans (h q hq)
theorem mr_Fr.R {w w' : mr_Wd} (h : mr_Fr w w') (f nm : Nat → Int) (rd : mr_AE) (m cl ct : Int) (R F : Nat → Nat → Int) : mr_Fr w (mr_wR w' f nm rd m cl ct R F) := fun q hq => (mr_wR_ne _ _ _ _ _ _ _ _ _ (by omega)).trans (h q hq)
def mr_l3 (a b c : Int) : Nat → Int := fun j => if j = 0 then a else if j = 1 then b else if j = 2 then c else 0
def mr_tb (r : Nat → Int) : Int := 10000 * r 0 + 100 * r 1 + r 2
abbrev mr_pk (f : Nat → Int) (p : Int) : Prop := 0 < f 0 ∧ 0 ≤ p ∧ p < 4
abbrev mr_ro (f : Nat → Int) (x y z : Int) : Prop := ((0 < f 1 ∧ 0 ≤ x ∧ x < f 0) ∨ (f 1 ≤ 0 ∧ x = 0)) ∧ ((1 < f 1 ∧ 0 ≤ y ∧ y < f 0) ∨ (f 1 ≤ 1 ∧ y = 0)) ∧ ((2 < f 1 ∧ 0 ≤ z ∧ z < f 0) ∨ (f 1 ≤ 2 ∧ z = 0))
theorem mr_l3_bd {f : Nat → Int} (hB : mr_Bd f) {x y z : Int} (h : mr_ro f x y z) : mr_Rd (mr_l3 x y z) := by
  have h0 := hB.1 0
  intro j
  unfold mr_l3
  split
  · omega
  · split
    · omega
    · split <;> omega
theorem mr_XS.rk {w : mr_Wd} {n0 nx ct fk : Int} {g f im : Nat → Int} {S I : Nat → Nat → Int} (hX : mr_XS w (n0, g, f, nx, ct, S, I, im, fk)) (hM : 1 ≤ f 0) : mr_RK w 3 f := by
  obtain ⟨⟨sd, h0⟩, h1, h2, h3, h4, h5, h6, h7, ⟨m0, cl0, ct0, R0, F0, hS⟩, ⟨rv, rk, rs, rn, ro, rl_, rln, rmd, ra, rb, h11, hrv, hrs⟩, h12, ⟨f13, h13⟩, ⟨nm, h14, hnm⟩, h15, h16, ⟨r17, h17⟩, hn0, hB, hnx, hct, hSB, hIB, him, hfk⟩ := hX
  exact ⟨⟨h3, h4⟩, Or.inl rfl, hB, h7, ⟨m0, cl0, ct0, R0, F0, hS⟩, hM⟩
theorem xs_keep {w : mr_Wd} {n0 nx ct fk : Int} {g f im : Nat → Int} {S I : Nat → Nat → Int}  {Po : Option mr_AV → mr_Wd → Prop} (hX : mr_XS w (n0, g, f, nx, ct, S, I, im, fk))  (k : ∀ w' : mr_Wd, mr_XS w' (n0, g, f, (nx + 1) % 8, min (ct + 1) 8, (fun i => if i = nx.toNat then f else S i), I, im, fk) → mr_Fr w w' → Po none w') : T_X1_keep [vR 5 0, vR 3 0] w Po := by
  have hX0 := hX
  obtain ⟨⟨sd, h0⟩, h1, h2, h3, h4, h5, h6, h7, ⟨m0, cl0, ct0, R0, F0, hS⟩, ⟨rv, rk, rs, rn, ro, rl_, rln, rmd, ra, rb, h11, hrv, hrs⟩, h12, ⟨f13, h13⟩, ⟨nm, h14, hnm⟩, h15, h16, ⟨r17, h17⟩, hn0, hB, hnx, hct, hSB, hIB, him, hfk⟩ := hX
  refine ⟨nx, ct, S, f, rfl, ⟨h5, h6⟩, ⟨h3, h4⟩, hnx, hct, k _ ⟨⟨sd, h0⟩, h1, h2, h3, h4, rfl, rfl, h7, ⟨m0, cl0, ct0, R0, F0, hS⟩, ⟨rv, rk, rs, rn, ro, rl_, rln, rmd, ra, rb, h11, hrv, hrs⟩, h12, ⟨f13, h13⟩, ⟨nm, h14, hnm⟩, h15, h16, ⟨r17, h17⟩, hn0, hB, ⟨by omega, by omega⟩, ⟨by omega, by omega⟩, (fun i => ?_), hIB, him, hfk⟩ (((mr_Fr.rf w).up _ (by decide)).up _ (by decide))⟩
  show mr_Bd (if i = nx.toNat then f else S i)
  split
  · exact hB
  · exact hSB i
theorem xs_forget {w : mr_Wd} {n0 nx ct fk : Int} {g f im : Nat → Int} {S I : Nat → Nat → Int}  {Po : Option mr_AV → mr_Wd → Prop} (hX : mr_XS w (n0, g, f, nx, ct, S, I, im, fk))  (k : ∀ w' : mr_Wd, mr_XS w' (n0, g, f, nx, 0, S, I, im, fk) → mr_Fr w w' → Po none w') : T_X1_forget [vR 5 0] w Po := by
  have hX0 := hX
  obtain ⟨⟨sd, h0⟩, h1, h2, h3, h4, h5, h6, h7, ⟨m0, cl0, ct0, R0, F0, hS⟩, ⟨rv, rk, rs, rn, ro, rl_, rln, rmd, ra, rb, h11, hrv, hrs⟩, h12, ⟨f13, h13⟩, ⟨nm, h14, hnm⟩, h15, h16, ⟨r17, h17⟩, hn0, hB, hnx, hct, hSB, hIB, him, hfk⟩ := hX
  exact ⟨nx, ct, S, rfl, ⟨h5, h6⟩, k _ ⟨⟨sd, h0⟩, h1, h2, h3, h4, rfl, h6, h7, ⟨m0, cl0, ct0, R0, F0, hS⟩, ⟨rv, rk, rs, rn, ro, rl_, rln, rmd, ra, rb, h11, hrv, hrs⟩, h12, ⟨f13, h13⟩, ⟨nm, h14, hnm⟩, h15, h16, ⟨r17, h17⟩, hn0, hB, hnx, (by decide), hSB, hIB, him, hfk⟩ ((mr_Fr.rf w).up _ (by decide))⟩
theorem xs_goBack {w : mr_Wd} {n0 nx ct fk : Int} {g f im : Nat → Int} {S I : Nat → Nat → Int}  {Po : Option mr_AV → mr_Wd → Prop} (hX : mr_XS w (n0, g, f, nx, ct, S, I, im, fk))  (k1 : 0 < ct → ∀ w' : mr_Wd, mr_XS w' (n0, g, S ((nx - 1) % 8).toNat, (nx - 1) % 8, ct - 1, S, I, im, fk) → mr_Fr w w' → Po (some (vI 1)) w') (k0 : ct = 0 → Po (some (vI 0)) w) : T_X1_goBack [vR 5 0, vR 3 0] w Po := by
  have hX0 := hX
  obtain ⟨⟨sd, h0⟩, h1, h2, h3, h4, h5, h6, h7, ⟨m0, cl0, ct0, R0, F0, hS⟩, ⟨rv, rk, rs, rn, ro, rl_, rln, rmd, ra, rb, h11, hrv, hrs⟩, h12, ⟨f13, h13⟩, ⟨nm, h14, hnm⟩, h15, h16, ⟨r17, h17⟩, hn0, hB, hnx, hct, hSB, hIB, him, hfk⟩ := hX
  exact ⟨nx, ct, S, f, rfl, ⟨h5, h6⟩, ⟨h3, h4⟩, hnx, hct, fun z => k1 z _ ⟨⟨sd, h0⟩, h1, h2, h3, rfl, rfl, h6, h7, ⟨m0, cl0, ct0, R0, F0, hS⟩, ⟨rv, rk, rs, rn, ro, rl_, rln, rmd, ra, rb, h11, hrv, hrs⟩, h12, ⟨f13, h13⟩, ⟨nm, h14, hnm⟩, h15, h16, ⟨r17, h17⟩, hn0, (hSB _), ⟨by omega, by omega⟩, ⟨by omega, by omega⟩, hSB, hIB, him, hfk⟩ (((mr_Fr.rf w).up _ (by decide)).up _ (by decide)), k0⟩
theorem xs_copyForm {w : mr_Wd} {n0 nx ct fk : Int} {g f im : Nat → Int} {S I : Nat → Nat → Int} {p c : Int} {Po : Option mr_AV → mr_Wd → Prop} (hX : mr_XS w (n0, g, f, nx, ct, S, I, im, fk)) (hp : InR p) (hc : InR c) (k : ∀ w' : mr_Wd, mr_XS w' (n0, g, f, nx, ct, S, I, im, fk) → w' 17 = eA 0 3 (fun j => mr_fa f p c j) → mr_Fr w w' → Po none w') : T_X0_copyForm [vR 3 0, vI p, vI c, vR 17 0] w Po := by
  have hX0 := hX
  obtain ⟨⟨sd, h0⟩, h1, h2, h3, h4, h5, h6, h7, ⟨m0, cl0, ct0, R0, F0, hS⟩, ⟨rv, rk, rs, rn, ro, rl_, rln, rmd, ra, rb, h11, hrv, hrs⟩, h12, ⟨f13, h13⟩, ⟨nm, h14, hnm⟩, h15, h16, ⟨r17, h17⟩, hn0, hB, hnx, hct, hSB, hIB, him, hfk⟩ := hX
  exact ⟨3, 17, f, r17, p, c, rfl, ⟨h3, h4⟩, h17, hp, hc, k _ ⟨⟨sd, h0⟩, h1, h2, h3, h4, h5, h6, h7, ⟨m0, cl0, ct0, R0, F0, hS⟩, ⟨rv, rk, rs, rn, ro, rl_, rln, rmd, ra, rb, h11, hrv, hrs⟩, h12, ⟨f13, h13⟩, ⟨nm, h14, hnm⟩, h15, h16, ⟨_, rfl⟩, hn0, hB, hnx, hct, hSB, hIB, him, hfk⟩ rfl ((mr_Fr.rf w).up _ (by decide))⟩
theorem xs_lessen {w : mr_Wd} {n0 nx ct fk : Int} {g f im : Nat → Int} {S I : Nat → Nat → Int} {p : Int} {r : Nat → Int} {Po : Option mr_AV → mr_Wd → Prop} (hX : mr_XS w (n0, g, f, nx, ct, S, I, im, fk)) (hp : InR p) (hr17 : w 17 = eA 0 3 r) (hr : mr_Rd r) (k : ∀ w' : mr_Wd, mr_XS w' (n0, g, f, nx, ct, S, I, im, fk) → w' 17 = eA 0 3 (mr_lsl f p 3 0 r) → mr_Fr w w' → Po none w') : T_X0_lessen [vR 3 0, vI p, vR 17 0] w Po := by
  have hX0 := hX
  obtain ⟨⟨sd, h0⟩, h1, h2, h3, h4, h5, h6, h7, ⟨m0, cl0, ct0, R0, F0, hS⟩, ⟨rv, rk, rs, rn, ro, rl_, rln, rmd, ra, rb, h11, hrv, hrs⟩, h12, ⟨f13, h13⟩, ⟨nm, h14, hnm⟩, h15, h16, ⟨r17, h17⟩, hn0, hB, hnx, hct, hSB, hIB, him, hfk⟩ := hX
  exact ⟨3, 17, f, r, p, rfl, ⟨h3, h4⟩, hr17, hB, hr, hp, k _ ⟨⟨sd, h0⟩, h1, h2, h3, h4, h5, h6, h7, ⟨m0, cl0, ct0, R0, F0, hS⟩, ⟨rv, rk, rs, rn, ro, rl_, rln, rmd, ra, rb, h11, hrv, hrs⟩, h12, ⟨f13, h13⟩, ⟨nm, h14, hnm⟩, h15, h16, ⟨_, rfl⟩, hn0, hB, hnx, hct, hSB, hIB, him, hfk⟩ rfl ((mr_Fr.rf w).up _ (by decide))⟩
theorem xs_findRanked {w : mr_Wd} {n0 nx ct fk : Int} {g f im : Nat → Int} {S I : Nat → Nat → Int} {p t : Int} {Po : Option mr_AV → mr_Wd → Prop} (hX : mr_XS w (n0, g, f, nx, ct, S, I, im, fk)) (hp : InR p) (ht : 0 ≤ t ∧ t ≤ 27000) (k : ∀ w' : mr_Wd, mr_XS w' (n0, g, f, nx, ct, S, I, im, fk) → w' 17 = eA 0 3 (mr_frl f p 3 0 t (fun _ => 0)) → mr_Fr w w' → Po none w') : T_X0_findRanked [vR 3 0, vI p, vI t, vR 17 0] w Po := by
  have hX0 := hX
  obtain ⟨⟨sd, h0⟩, h1, h2, h3, h4, h5, h6, h7, ⟨m0, cl0, ct0, R0, F0, hS⟩, ⟨rv, rk, rs, rn, ro, rl_, rln, rmd, ra, rb, h11, hrv, hrs⟩, h12, ⟨f13, h13⟩, ⟨nm, h14, hnm⟩, h15, h16, ⟨r17, h17⟩, hn0, hB, hnx, hct, hSB, hIB, him, hfk⟩ := hX
  exact ⟨3, 17, f, r17, p, t, rfl, ⟨h3, h4⟩, h17, hB, hp, ht, k _ ⟨⟨sd, h0⟩, h1, h2, h3, h4, h5, h6, h7, ⟨m0, cl0, ct0, R0, F0, hS⟩, ⟨rv, rk, rs, rn, ro, rl_, rln, rmd, ra, rb, h11, hrv, hrs⟩, h12, ⟨f13, h13⟩, ⟨nm, h14, hnm⟩, h15, h16, ⟨_, rfl⟩, hn0, hB, hnx, hct, hSB, hIB, him, hfk⟩ rfl ((mr_Fr.rf w).up _ (by decide))⟩
theorem xs_setPlain {w : mr_Wd} {n0 nx ct fk : Int} {g f im : Nat → Int} {S I : Nat → Nat → Int} {p v : Int} {Po : Option mr_AV → mr_Wd → Prop} (hX : mr_XS w (n0, g, f, nx, ct, S, I, im, fk)) (hp : 0 ≤ p ∧ p < 4) (hv : 0 ≤ v ∧ v ≤ 30) (k : ∀ w' : mr_Wd, mr_XS w' (n0, g, mr_pA f p (fun c a => if a = c then v else 0), nx, ct, S, I, im, fk) → mr_Fr w w' → Po none w') : T_X0_setPlain [vR 3 0, vI p, vI v] w Po := by
  have hX0 := hX
  obtain ⟨⟨sd, h0⟩, h1, h2, h3, h4, h5, h6, h7, ⟨m0, cl0, ct0, R0, F0, hS⟩, ⟨rv, rk, rs, rn, ro, rl_, rln, rmd, ra, rb, h11, hrv, hrs⟩, h12, ⟨f13, h13⟩, ⟨nm, h14, hnm⟩, h15, h16, ⟨r17, h17⟩, hn0, hB, hnx, hct, hSB, hIB, him, hfk⟩ := hX
  refine ⟨3, f, p, v, rfl, ⟨h3, h4⟩, hB, hp, k _ ⟨⟨sd, h0⟩, h1, h2, h3, rfl, h5, h6, h7, ⟨m0, cl0, ct0, R0, F0, hS⟩, ⟨rv, rk, rs, rn, ro, rl_, rln, rmd, ra, rb, h11, hrv, hrs⟩, h12, ⟨f13, h13⟩, ⟨nm, h14, hnm⟩, h15, h16, ⟨r17, h17⟩, hn0, (mr_pt_bd hB _ _ _ _ hp.1 (fun c a => ?_)), hnx, hct, hSB, hIB, him, hfk⟩ ((mr_Fr.rf w).up _ (by decide))⟩
  show 0 ≤ (if a = c then v else 0) ∧ (if a = c then v else 0) ≤ 30
  split <;> omega
theorem xs_setEqC {w : mr_Wd} {n0 nx ct fk : Int} {g f im : Nat → Int} {S I : Nat → Nat → Int} {n : Int} {Po : Option mr_AV → mr_Wd → Prop} (hX : mr_XS w (n0, g, f, nx, ct, S, I, im, fk)) (hn : InR n) (k : ∀ w' : mr_Wd, mr_XS w' (n0, g, mr_fs f 2 (max 0 (min n 3)), nx, ct, S, I, im, fk) → mr_Fr w w' → Po none w') : T_X0_setEquationCount [vR 3 0, vI n] w Po := by
  have hX0 := hX
  obtain ⟨⟨sd, h0⟩, h1, h2, h3, h4, h5, h6, h7, ⟨m0, cl0, ct0, R0, F0, hS⟩, ⟨rv, rk, rs, rn, ro, rl_, rln, rmd, ra, rb, h11, hrv, hrs⟩, h12, ⟨f13, h13⟩, ⟨nm, h14, hnm⟩, h15, h16, ⟨r17, h17⟩, hn0, hB, hnx, hct, hSB, hIB, him, hfk⟩ := hX
  exact ⟨3, f, n, rfl, ⟨h3, h4⟩, hn, k _ ⟨⟨sd, h0⟩, h1, h2, h3, rfl, h5, h6, h7, ⟨m0, cl0, ct0, R0, F0, hS⟩, ⟨rv, rk, rs, rn, ro, rl_, rln, rmd, ra, rb, h11, hrv, hrs⟩, h12, ⟨f13, h13⟩, ⟨nm, h14, hnm⟩, h15, h16, ⟨r17, h17⟩, hn0, (mr_fsB hB ⟨by omega, by omega⟩), hnx, hct, hSB, hIB, him, hfk⟩ ((mr_Fr.rf w).up _ (by decide))⟩
theorem xs_setEq {w : mr_Wd} {n0 nx ct fk : Int} {g f im : Nat → Int} {S I : Nat → Nat → Int} {i v : Int} {r : Nat → Int} {Po : Option mr_AV → mr_Wd → Prop} (hX : mr_XS w (n0, g, f, nx, ct, S, I, im, fk)) (hi : InR i) (hv : 0 ≤ v ∧ v ≤ 30) (hr17 : w 17 = eA 0 3 r) (hr : mr_Rd r) (k : ∀ w' : mr_Wd, mr_XS w' (n0, g, mr_seq f i r v, nx, ct, S, I, im, fk) → w' 17 = eA 0 3 r → mr_Fr w w' → Po none w') : T_X0_setEquation [vR 3 0, vI i, vR 17 0, vI v] w Po := by
  have hX0 := hX
  obtain ⟨⟨sd, h0⟩, h1, h2, h3, h4, h5, h6, h7, ⟨m0, cl0, ct0, R0, F0, hS⟩, ⟨rv, rk, rs, rn, ro, rl_, rln, rmd, ra, rb, h11, hrv, hrs⟩, h12, ⟨f13, h13⟩, ⟨nm, h14, hnm⟩, h15, h16, ⟨r17, h17⟩, hn0, hB, hnx, hct, hSB, hIB, him, hfk⟩ := hX
  exact ⟨3, 17, f, r, i, v, rfl, ⟨h3, h4⟩, hr17, hi, k _ ⟨⟨sd, h0⟩, h1, h2, h3, rfl, h5, h6, h7, ⟨m0, cl0, ct0, R0, F0, hS⟩, ⟨rv, rk, rs, rn, ro, rl_, rln, rmd, ra, rb, h11, hrv, hrs⟩, h12, ⟨f13, h13⟩, ⟨nm, h14, hnm⟩, h15, h16, ⟨r17, h17⟩, hn0, (mr_seq_bd hB hr _ _ hv), hnx, hct, hSB, hIB, him, hfk⟩ hr17 ((mr_Fr.rf w).up _ (by decide))⟩
theorem mr_rml_bd : ∀ (n : Nat) (i : Int) {f : Nat → Int}, mr_Bd f → mr_Bd (mr_rml n i f)
  | 0, i, f, h => h
  | n + 1, i, f, h => by
    unfold mr_rml
    split
    · exact mr_rml_bd n (i + 1) (mr_rms_bd h i)
    · exact h
theorem xs_remEq {w : mr_Wd} {n0 nx ct fk : Int} {g f im : Nat → Int} {S I : Nat → Nat → Int} {i : Int} {Po : Option mr_AV → mr_Wd → Prop} (hX : mr_XS w (n0, g, f, nx, ct, S, I, im, fk)) (hi : 0 ≤ i ∧ i ≤ 5) (k : ∀ w' : mr_Wd, mr_XS w' (n0, g, mr_fs (mr_rml 3 i f) 2 (max 0 (min (f 2 - 1) 3)), nx, ct, S, I, im, fk) → mr_Fr w w' → Po none w') : T_X0_removeEquation [vR 3 0, vI i] w Po := by
  have hX0 := hX
  obtain ⟨⟨sd, h0⟩, h1, h2, h3, h4, h5, h6, h7, ⟨m0, cl0, ct0, R0, F0, hS⟩, ⟨rv, rk, rs, rn, ro, rl_, rln, rmd, ra, rb, h11, hrv, hrs⟩, h12, ⟨f13, h13⟩, ⟨nm, h14, hnm⟩, h15, h16, ⟨r17, h17⟩, hn0, hB, hnx, hct, hSB, hIB, him, hfk⟩ := hX
  exact ⟨3, f, i, rfl, ⟨h3, h4⟩, hB, hi, k _ ⟨⟨sd, h0⟩, h1, h2, h3, rfl, h5, h6, h7, ⟨m0, cl0, ct0, R0, F0, hS⟩, ⟨rv, rk, rs, rn, ro, rl_, rln, rmd, ra, rb, h11, hrv, hrs⟩, h12, ⟨f13, h13⟩, ⟨nm, h14, hnm⟩, h15, h16, ⟨r17, h17⟩, hn0, (mr_fsB (mr_rml_bd 3 i hB) ⟨by omega, by omega⟩), hnx, hct, hSB, hIB, him, hfk⟩ ((mr_Fr.rf w).up _ (by decide))⟩
theorem xs_image {w : mr_Wd} {n0 nx ct fk : Int} {g f im : Nat → Int} {S I : Nat → Nat → Int} {i : Nat} {Po : Option mr_AV → mr_Wd → Prop} (hX : mr_XS w (n0, g, f, nx, ct, S, I, im, fk)) (hi : i < 2) (k : ∀ w' : mr_Wd, mr_XS w' (n0, g, f, nx, ct, S, (fun q => if q = i then f else I q), im, fk) → mr_Fr w w' → Po none w') : T_X0_copyTo [vR 3 0, vR 15 (i + 1)] w Po := by
  have hX0 := hX
  obtain ⟨⟨sd, h0⟩, h1, h2, h3, h4, h5, h6, h7, ⟨m0, cl0, ct0, R0, F0, hS⟩, ⟨rv, rk, rs, rn, ro, rl_, rln, rmd, ra, rb, h11, hrv, hrs⟩, h12, ⟨f13, h13⟩, ⟨nm, h14, hnm⟩, h15, h16, ⟨r17, h17⟩, hn0, hB, hnx, hct, hSB, hIB, him, hfk⟩ := hX
  refine ⟨3, 15, 2, i, f, I, rfl, ⟨h3, h4⟩, h15, hi, k _ ⟨⟨sd, h0⟩, h1, h2, h3, h4, h5, h6, h7, ⟨m0, cl0, ct0, R0, F0, hS⟩, ⟨rv, rk, rs, rn, ro, rl_, rln, rmd, ra, rb, h11, hrv, hrs⟩, h12, ⟨f13, h13⟩, ⟨nm, h14, hnm⟩, rfl, h16, ⟨r17, h17⟩, hn0, hB, hnx, hct, hSB, (fun q => ?_), him, hfk⟩ ((mr_Fr.rf w).up _ (by decide))⟩
  show mr_Bd (if q = i then f else I q)
  split
  · exact hB
  · exact hIB q
theorem xs_restore {w : mr_Wd} {n0 nx ct fk : Int} {g f im : Nat → Int} {S I : Nat → Nat → Int} {i : Nat} {Po : Option mr_AV → mr_Wd → Prop} (hX : mr_XS w (n0, g, f, nx, ct, S, I, im, fk)) (hi : i < 2) (k : ∀ w' : mr_Wd, mr_XS w' (n0, g, I i, nx, ct, S, I, im, fk) → mr_Fr w w' → Po none w') : T_X0_copyFrom [vR 3 0, vR 15 (i + 1)] w Po := by
  have hX0 := hX
  obtain ⟨⟨sd, h0⟩, h1, h2, h3, h4, h5, h6, h7, ⟨m0, cl0, ct0, R0, F0, hS⟩, ⟨rv, rk, rs, rn, ro, rl_, rln, rmd, ra, rb, h11, hrv, hrs⟩, h12, ⟨f13, h13⟩, ⟨nm, h14, hnm⟩, h15, h16, ⟨r17, h17⟩, hn0, hB, hnx, hct, hSB, hIB, him, hfk⟩ := hX
  exact Or.inl ⟨3, 15, 2, i, f, I, rfl, ⟨h3, h4⟩, h15, hi, k _ ⟨⟨sd, h0⟩, h1, h2, h3, rfl, h5, h6, h7, ⟨m0, cl0, ct0, R0, F0, hS⟩, ⟨rv, rk, rs, rn, ro, rl_, rln, rmd, ra, rb, h11, hrv, hrs⟩, h12, ⟨f13, h13⟩, ⟨nm, h14, hnm⟩, h15, h16, ⟨r17, h17⟩, hn0, (hIB i), hnx, hct, hSB, hIB, him, hfk⟩ ((mr_Fr.rf w).up _ (by decide))⟩
theorem xs_X3_putJoined {w : mr_Wd} {n0 nx ct fk : Int} {g f im : Nat → Int} {S I : Nat → Nat → Int} {s t q : Int} {Po : Option mr_AV → mr_Wd → Prop} (hX : mr_XS w (n0, g, f, nx, ct, S, I, im, fk)) (hM : 1 ≤ f 0) (hs : 0 ≤ s ∧ s < 4) (ht : 0 ≤ t ∧ t < 4) (hq : 0 ≤ q ∧ q < 4) (k : ∀ (R1 F1 : Nat → Nat → Int) (w' : mr_Wd), mr_XS w' (n0, g, mr_pA f q (fun c a => mr_sh (f 1) (mr_shp (f 0) (f 1) (0 + f 1 + f 1) (mr_tbJ (f 1) 0 f s t R1) F1) (0 + c) (0 + a)), nx, ct, S, I, im, fk) → mr_Fr w w' → Po none w') : T_X3_putJoined [vR 7 0, vR 3 0, vI s, vI t, vI q] w Po := by
  have hX0 := hX
  obtain ⟨⟨sd, h0⟩, h1, h2, h3, h4, h5, h6, h7, ⟨m0, cl0, ct0, R0, F0, hS⟩, ⟨rv, rk, rs, rn, ro, rl_, rln, rmd, ra, rb, h11, hrv, hrs⟩, h12, ⟨f13, h13⟩, ⟨nm, h14, hnm⟩, h15, h16, ⟨r17, h17⟩, hn0, hB, hnx, hct, hSB, hIB, him, hfk⟩ := hX
  have h10 := hB.1 0
  have h11_ := hB.1 1
  have h12_ := hB.1 2
  refine ⟨3, f, s, t, q, rfl, hX0.rk hM, hs, ht, hq, (fun R1 F1 m_ cl_ ct_ R_ F_ => k R1 F1 _ ⟨⟨sd, h0⟩, h1, h2, h3, rfl, h5, h6, h7, ⟨_, _, _, _, _, rfl, rfl, rfl⟩, ⟨rv, rk, rs, rn, ro, rl_, rln, rmd, ra, rb, h11, hrv, hrs⟩, h12, ⟨f13, h13⟩, ⟨nm, h14, hnm⟩, h15, h16, ⟨r17, h17⟩, hn0, (mr_pt_bd hB _ _ _ _ (by omega) (fun c a => mr_sh_in h10.2 (mr_shp_bm hM (by omega) (by omega) (mr_tbJ_bm hM h11_.1)) _ _)), hnx, hct, hSB, hIB, him, hfk⟩ (((mr_Fr.rf w).up _ (by decide)).S _ _ _ _ _))⟩
theorem xs_X3_putMet {w : mr_Wd} {n0 nx ct fk : Int} {g f im : Nat → Int} {S I : Nat → Nat → Int} {s t q : Int} {Po : Option mr_AV → mr_Wd → Prop} (hX : mr_XS w (n0, g, f, nx, ct, S, I, im, fk)) (hM : 1 ≤ f 0) (hs : 0 ≤ s ∧ s < 4) (ht : 0 ≤ t ∧ t < 4) (hq : 0 ≤ q ∧ q < 4) (k : ∀ (R1 F1 : Nat → Nat → Int) (w' : mr_Wd), mr_XS w' (n0, g, mr_pA f q (fun c a => mr_sh (2 * f 1) (mr_shp (f 0) (2 * f 1) (0 + f 1 + f 1) (mr_tbJ (2 * f 1) 1 f s t R1) F1) (f 1 + c) (f 1 + a)), nx, ct, S, I, im, fk) → mr_Fr w w' → Po none w') : T_X3_putMet [vR 7 0, vR 3 0, vI s, vI t, vI q] w Po := by
  have hX0 := hX
  obtain ⟨⟨sd, h0⟩, h1, h2, h3, h4, h5, h6, h7, ⟨m0, cl0, ct0, R0, F0, hS⟩, ⟨rv, rk, rs, rn, ro, rl_, rln, rmd, ra, rb, h11, hrv, hrs⟩, h12, ⟨f13, h13⟩, ⟨nm, h14, hnm⟩, h15, h16, ⟨r17, h17⟩, hn0, hB, hnx, hct, hSB, hIB, him, hfk⟩ := hX
  have h10 := hB.1 0
  have h11_ := hB.1 1
  have h12_ := hB.1 2
  refine ⟨3, f, s, t, q, rfl, hX0.rk hM, hs, ht, hq, (fun R1 F1 m_ cl_ ct_ R_ F_ => k R1 F1 _ ⟨⟨sd, h0⟩, h1, h2, h3, rfl, h5, h6, h7, ⟨_, _, _, _, _, rfl, rfl, rfl⟩, ⟨rv, rk, rs, rn, ro, rl_, rln, rmd, ra, rb, h11, hrv, hrs⟩, h12, ⟨f13, h13⟩, ⟨nm, h14, hnm⟩, h15, h16, ⟨r17, h17⟩, hn0, (mr_pt_bd hB _ _ _ _ (by omega) (fun c a => mr_sh_in h10.2 (mr_shp_bm hM (by omega) (by omega) (mr_tbJ_bm hM h11_.1)) _ _)), hnx, hct, hSB, hIB, him, hfk⟩ (((mr_Fr.rf w).up _ (by decide)).S _ _ _ _ _))⟩
theorem xs_X3_putTimes {w : mr_Wd} {n0 nx ct fk : Int} {g f im : Nat → Int} {S I : Nat → Nat → Int} {s u q : Int} {Po : Option mr_AV → mr_Wd → Prop} (hX : mr_XS w (n0, g, f, nx, ct, S, I, im, fk)) (hM : 1 ≤ f 0) (hs : 0 ≤ s ∧ s < 4) (hu : 0 ≤ u ∧ u ≤ 30) (hq : 0 ≤ q ∧ q < 4) (k : ∀ (R1 F1 : Nat → Nat → Int) (w' : mr_Wd), mr_XS w' (n0, g, mr_pA f q (fun c a => mr_sh (f 1) (mr_shp (f 0) (f 1) (0 + f 1) (mr_tbT u f s R1) F1) (0 + c) (0 + a)), nx, ct, S, I, im, fk) → mr_Fr w w' → Po none w') : T_X3_putTimes [vR 7 0, vR 3 0, vI s, vI u, vI q] w Po := by
  have hX0 := hX
  obtain ⟨⟨sd, h0⟩, h1, h2, h3, h4, h5, h6, h7, ⟨m0, cl0, ct0, R0, F0, hS⟩, ⟨rv, rk, rs, rn, ro, rl_, rln, rmd, ra, rb, h11, hrv, hrs⟩, h12, ⟨f13, h13⟩, ⟨nm, h14, hnm⟩, h15, h16, ⟨r17, h17⟩, hn0, hB, hnx, hct, hSB, hIB, him, hfk⟩ := hX
  have h10 := hB.1 0
  have h11_ := hB.1 1
  have h12_ := hB.1 2
  refine ⟨3, f, s, u, q, rfl, hX0.rk hM, hs, hu, hq, (fun R1 F1 m_ cl_ ct_ R_ F_ => k R1 F1 _ ⟨⟨sd, h0⟩, h1, h2, h3, rfl, h5, h6, h7, ⟨_, _, _, _, _, rfl, rfl, rfl⟩, ⟨rv, rk, rs, rn, ro, rl_, rln, rmd, ra, rb, h11, hrv, hrs⟩, h12, ⟨f13, h13⟩, ⟨nm, h14, hnm⟩, h15, h16, ⟨r17, h17⟩, hn0, (mr_pt_bd hB _ _ _ _ (by omega) (fun c a => mr_sh_in h10.2 (mr_shp_bm hM (by omega) (by omega) (mr_tbT_bm hM h11_.1)) _ _)), hnx, hct, hSB, hIB, him, hfk⟩ (((mr_Fr.rf w).up _ (by decide)).S _ _ _ _ _))⟩
theorem xs_X3_putBy {w : mr_Wd} {n0 nx ct fk : Int} {g f im : Nat → Int} {S I : Nat → Nat → Int} {s u q : Int} {Po : Option mr_AV → mr_Wd → Prop} (hX : mr_XS w (n0, g, f, nx, ct, S, I, im, fk)) (hM : 1 ≤ f 0) (hs : 0 ≤ s ∧ s < 4) (hu : 0 ≤ u ∧ u ≤ 30) (hq : 0 ≤ q ∧ q < 4) (k : ∀ (R1 F1 : Nat → Nat → Int) (w' : mr_Wd), mr_XS w' (n0, g, mr_pA f q (fun c a => mr_sh (2 * f 1) (mr_shp (f 0) (2 * f 1) (0 + f 1 + f 1) (mr_tbB u f s R1) F1) (f 1 + c) (f 1 + a)), nx, ct, S, I, im, fk) → mr_Fr w w' → Po none w') : T_X3_putBy [vR 7 0, vR 3 0, vI s, vI u, vI q] w Po := by
  have hX0 := hX
  obtain ⟨⟨sd, h0⟩, h1, h2, h3, h4, h5, h6, h7, ⟨m0, cl0, ct0, R0, F0, hS⟩, ⟨rv, rk, rs, rn, ro, rl_, rln, rmd, ra, rb, h11, hrv, hrs⟩, h12, ⟨f13, h13⟩, ⟨nm, h14, hnm⟩, h15, h16, ⟨r17, h17⟩, hn0, hB, hnx, hct, hSB, hIB, him, hfk⟩ := hX
  have h10 := hB.1 0
  have h11_ := hB.1 1
  have h12_ := hB.1 2
  refine ⟨3, f, s, u, q, rfl, hX0.rk hM, hs, hu, hq, (fun R1 F1 m_ cl_ ct_ R_ F_ => k R1 F1 _ ⟨⟨sd, h0⟩, h1, h2, h3, rfl, h5, h6, h7, ⟨_, _, _, _, _, rfl, rfl, rfl⟩, ⟨rv, rk, rs, rn, ro, rl_, rln, rmd, ra, rb, h11, hrv, hrs⟩, h12, ⟨f13, h13⟩, ⟨nm, h14, hnm⟩, h15, h16, ⟨r17, h17⟩, hn0, (mr_pt_bd hB _ _ _ _ (by omega) (fun c a => mr_sh_in h10.2 (mr_shp_bm hM (by omega) (by omega) (mr_tbB_bm hM h11_.1)) _ _)), hnx, hct, hSB, hIB, him, hfk⟩ (((mr_Fr.rf w).up _ (by decide)).S _ _ _ _ _))⟩
theorem xs_X3_putUpright {w : mr_Wd} {n0 nx ct fk : Int} {g f im : Nat → Int} {S I : Nat → Nat → Int} {s q : Int} {Po : Option mr_AV → mr_Wd → Prop} (hX : mr_XS w (n0, g, f, nx, ct, S, I, im, fk)) (hM : 1 ≤ f 0) (hs : 0 ≤ s ∧ s < 4) (hq : 0 ≤ q ∧ q < 4) (k : ∀ (R1 F1 : Nat → Nat → Int) (w' : mr_Wd), mr_XS w' (n0, g, mr_pA f q (fun c a => mr_sh (2 * f 1) (mr_shp (f 0) (2 * f 1) (0 + f 1) (mr_tbU f s R1) F1) (f 1 + c) (f 1 + a)), nx, ct, S, I, im, fk) → mr_Fr w w' → Po none w') : T_X3_putUpright [vR 7 0, vR 3 0, vI s, vI q] w Po := by
  have hX0 := hX
  obtain ⟨⟨sd, h0⟩, h1, h2, h3, h4, h5, h6, h7, ⟨m0, cl0, ct0, R0, F0, hS⟩, ⟨rv, rk, rs, rn, ro, rl_, rln, rmd, ra, rb, h11, hrv, hrs⟩, h12, ⟨f13, h13⟩, ⟨nm, h14, hnm⟩, h15, h16, ⟨r17, h17⟩, hn0, hB, hnx, hct, hSB, hIB, him, hfk⟩ := hX
  have h10 := hB.1 0
  have h11_ := hB.1 1
  have h12_ := hB.1 2
  refine ⟨3, f, s, q, rfl, hX0.rk hM, hs, hq, (fun R1 F1 m_ cl_ ct_ R_ F_ => k R1 F1 _ ⟨⟨sd, h0⟩, h1, h2, h3, rfl, h5, h6, h7, ⟨_, _, _, _, _, rfl, rfl, rfl⟩, ⟨rv, rk, rs, rn, ro, rl_, rln, rmd, ra, rb, h11, hrv, hrs⟩, h12, ⟨f13, h13⟩, ⟨nm, h14, hnm⟩, h15, h16, ⟨r17, h17⟩, hn0, (mr_pt_bd hB _ _ _ _ (by omega) (fun c a => mr_sh_in h10.2 (mr_shp_bm hM (by omega) (by omega) (mr_u0_bm hM h11_.1)) _ _)), hnx, hct, hSB, hIB, him, hfk⟩ (((mr_Fr.rf w).up _ (by decide)).S _ _ _ _ _))⟩
theorem xs_X3_putKernel {w : mr_Wd} {n0 nx ct fk : Int} {g f im : Nat → Int} {S I : Nat → Nat → Int} {q : Int} {Po : Option mr_AV → mr_Wd → Prop} (hX : mr_XS w (n0, g, f, nx, ct, S, I, im, fk)) (hM : 1 ≤ f 0) (hq : 0 ≤ q ∧ q < 4) (k : ∀ (R1 F1 : Nat → Nat → Int) (w' : mr_Wd), mr_XS w' (n0, g, mr_pA f q (fun c a => mr_sh (f 2 + f 1) (mr_shp (f 0) (f 2 + f 1) (0 + f 1) (mr_tbK f R1) F1) (f 2 + c) (f 2 + a)), nx, ct, S, I, im, fk) → mr_Fr w w' → Po none w') : T_X3_putKernel [vR 7 0, vR 3 0, vI q] w Po := by
  have hX0 := hX
  obtain ⟨⟨sd, h0⟩, h1, h2, h3, h4, h5, h6, h7, ⟨m0, cl0, ct0, R0, F0, hS⟩, ⟨rv, rk, rs, rn, ro, rl_, rln, rmd, ra, rb, h11, hrv, hrs⟩, h12, ⟨f13, h13⟩, ⟨nm, h14, hnm⟩, h15, h16, ⟨r17, h17⟩, hn0, hB, hnx, hct, hSB, hIB, him, hfk⟩ := hX
  have h10 := hB.1 0
  have h11_ := hB.1 1
  have h12_ := hB.1 2
  refine ⟨3, f, q, rfl, hX0.rk hM, hq, (fun R1 F1 m_ cl_ ct_ R_ F_ => k R1 F1 _ ⟨⟨sd, h0⟩, h1, h2, h3, rfl, h5, h6, h7, ⟨_, _, _, _, _, rfl, rfl, rfl⟩, ⟨rv, rk, rs, rn, ro, rl_, rln, rmd, ra, rb, h11, hrv, hrs⟩, h12, ⟨f13, h13⟩, ⟨nm, h14, hnm⟩, h15, h16, ⟨r17, h17⟩, hn0, (mr_pt_bd hB _ _ _ _ (by omega) (fun c a => mr_sh_in h10.2 (mr_shp_bm hM (by omega) (by omega) (mr_u0_bm hM h11_.1)) _ _)), hnx, hct, hSB, hIB, him, hfk⟩ (((mr_Fr.rf w).up _ (by decide)).S _ _ _ _ _))⟩
theorem xs_absorb {w : mr_Wd} {n0 nx ct fk : Int} {g f im : Nat → Int} {S I : Nat → Nat → Int} {p : Int} {r : Nat → Int} {Po : Option mr_AV → mr_Wd → Prop} (hX : mr_XS w (n0, g, f, nx, ct, S, I, im, fk)) (hM : 1 ≤ f 0) (hp : 0 ≤ p ∧ p < 4) (hr17 : w 17 = eA 0 3 r) (hr : mr_Rd r) (k : ∀ w' : mr_Wd, mr_XS w' (n0, g, mr_abs f r p mr_Zz mr_Zz, nx, ct, S, I, im, fk) → mr_Fr w w' → Po none w') : T_X3_absorb [vR 7 0, vR 3 0, vI p, vR 17 0] w Po := by
  have hX0 := hX
  obtain ⟨⟨sd, h0⟩, h1, h2, h3, h4, h5, h6, h7, ⟨m0, cl0, ct0, R0, F0, hS⟩, ⟨rv, rk, rs, rn, ro, rl_, rln, rmd, ra, rb, h11, hrv, hrs⟩, h12, ⟨f13, h13⟩, ⟨nm, h14, hnm⟩, h15, h16, ⟨r17, h17⟩, hn0, hB, hnx, hct, hSB, hIB, him, hfk⟩ := hX
  refine ⟨3, 17, f, r, p, rfl, hX0.rk hM, hr17, Or.inr rfl, hp, hr, (fun R1 F1 m_ cl_ ct_ R_ F_ => k _ ⟨⟨sd, h0⟩, h1, h2, h3, ?_, h5, h6, h7, ⟨_, _, _, _, _, rfl, rfl, rfl⟩, ⟨rv, rk, rs, rn, ro, rl_, rln, rmd, ra, rb, h11, hrv, hrs⟩, h12, ⟨f13, h13⟩, ⟨nm, h14, hnm⟩, h15, h16, ⟨r17, h17⟩, hn0, (mr_abs_bd hB hM r hp.1 _ _), hnx, hct, hSB, hIB, him, hfk⟩ (((mr_Fr.rf w).up _ (by decide)).S _ _ _ _ _))⟩
  show eA 0 51 (mr_abs f r p R1 F1) = _
  rw [mr_abs_in (hB.1 1).1]
theorem xs_few {w : mr_Wd} {n0 nx ct fk : Int} {g f im : Nat → Int} {S I : Nat → Nat → Int} {p : Int} {Po : Option mr_AV → mr_Wd → Prop} (hX : mr_XS w (n0, g, f, nx, ct, S, I, im, fk)) (hM : 1 ≤ f 0) (hp : 0 ≤ p ∧ p < 4) (k : ∀ w' : mr_Wd, mr_XS w' (n0, g, f, nx, ct, S, I, im, fk) → mr_Fr w w' → Po (some (vI (mr_fwl f p (f 0 - 1).toNat 2 0))) w') : T_X3_fewestRows [vR 7 0, vR 3 0, vI p] w Po := by
  have hX0 := hX
  obtain ⟨⟨sd, h0⟩, h1, h2, h3, h4, h5, h6, h7, ⟨m0, cl0, ct0, R0, F0, hS⟩, ⟨rv, rk, rs, rn, ro, rl_, rln, rmd, ra, rb, h11, hrv, hrs⟩, h12, ⟨f13, h13⟩, ⟨nm, h14, hnm⟩, h15, h16, ⟨r17, h17⟩, hn0, hB, hnx, hct, hSB, hIB, him, hfk⟩ := hX
  exact ⟨3, f, p, rfl, hX0.rk hM, hp, (fun m_ cl_ ct_ R_ F_ => k _ ⟨⟨sd, h0⟩, h1, h2, h3, h4, h5, h6, h7, ⟨_, _, _, _, _, rfl, rfl, rfl⟩, ⟨rv, rk, rs, rn, ro, rl_, rln, rmd, ra, rb, h11, hrv, hrs⟩, h12, ⟨f13, h13⟩, ⟨nm, h14, hnm⟩, h15, h16, ⟨r17, h17⟩, hn0, hB, hnx, hct, hSB, hIB, him, hfk⟩ ((mr_Fr.rf w).S _ _ _ _ _))⟩
theorem xs_count {w : mr_Wd} {n0 nx ct fk : Int} {g f im : Nat → Int} {S I : Nat → Nat → Int}  {Po : Option mr_AV → mr_Wd → Prop} (hX : mr_XS w (n0, g, f, nx, ct, S, I, im, fk)) (hM : 1 ≤ f 0) (k : ∀ (R1 F1 : Nat → Nat → Int) (w' : mr_Wd), mr_XS w' (n0, g, f, nx, ct, S, I, im, fk) → mr_Fr w w' → Po (some (vI (if mr_sh (f 2 + 1 + f 1) (mr_shp (f 0) (f 2 + 1 + f 1) (0 + 1 + f 1) (mr_tbS f R1) F1) (f 2) (f 2) = 1 then mr_sbl (f 0) (f 2 + 1 + f 1) (mr_shp (f 0) (f 2 + 1 + f 1) (0 + 1 + f 1) (mr_tbS f R1) F1) ((f 2 + 1 + f 1) - (f 2 + 1)).toNat (f 2 + 1) 1 else 0))) w') : T_X3_countSolutions [vR 7 0, vR 3 0] w Po := by
  have hX0 := hX
  obtain ⟨⟨sd, h0⟩, h1, h2, h3, h4, h5, h6, h7, ⟨m0, cl0, ct0, R0, F0, hS⟩, ⟨rv, rk, rs, rn, ro, rl_, rln, rmd, ra, rb, h11, hrv, hrs⟩, h12, ⟨f13, h13⟩, ⟨nm, h14, hnm⟩, h15, h16, ⟨r17, h17⟩, hn0, hB, hnx, hct, hSB, hIB, him, hfk⟩ := hX
  exact ⟨3, f, rfl, hX0.rk hM, (fun R1 F1 m_ cl_ ct_ R_ F_ => k R1 F1 _ ⟨⟨sd, h0⟩, h1, h2, h3, h4, h5, h6, h7, ⟨_, _, _, _, _, rfl, rfl, rfl⟩, ⟨rv, rk, rs, rn, ro, rl_, rln, rmd, ra, rb, h11, hrv, hrs⟩, h12, ⟨f13, h13⟩, ⟨nm, h14, hnm⟩, h15, h16, ⟨r17, h17⟩, hn0, hB, hnx, hct, hSB, hIB, him, hfk⟩ ((mr_Fr.rf w).S _ _ _ _ _))⟩
theorem xs_findS {w : mr_Wd} {n0 nx ct fk : Int} {g f im : Nat → Int} {S I : Nat → Nat → Int}  {Po : Option mr_AV → mr_Wd → Prop} (hX : mr_XS w (n0, g, f, nx, ct, S, I, im, fk)) (hM : 1 ≤ f 0) (k1 : ∀ (R1 F1 : Nat → Nat → Int) (w' : mr_Wd), mr_sh (f 2 + 1 + f 1) (mr_shp (f 0) (f 2 + 1 + f 1) (0 + 1 + f 1) (mr_tbS f R1) F1) (f 2) (f 2) = 1 → mr_XS w' (n0, g, f, nx, ct, S, I, im, fk) → w' 17 = eA 0 3 (fun j : Nat => mr_sh (f 2 + 1 + f 1) (mr_shp (f 0) (f 2 + 1 + f 1) (0 + 1 + f 1) (mr_tbS f R1) F1) (f 2) (f 2 + 1 + (j : Int))) → mr_Fr w w' → Po (some (vI 1)) w') (k0 : ∀ (R1 F1 : Nat → Nat → Int) (w' : mr_Wd), mr_sh (f 2 + 1 + f 1) (mr_shp (f 0) (f 2 + 1 + f 1) (0 + 1 + f 1) (mr_tbS f R1) F1) (f 2) (f 2) ≠ 1 → mr_XS w' (n0, g, f, nx, ct, S, I, im, fk) → mr_Fr w w' → Po (some (vI 0)) w') : T_X3_findSolution [vR 7 0, vR 3 0, vR 17 0] w Po := by
  have hX0 := hX
  obtain ⟨⟨sd, h0⟩, h1, h2, h3, h4, h5, h6, h7, ⟨m0, cl0, ct0, R0, F0, hS⟩, ⟨rv, rk, rs, rn, ro, rl_, rln, rmd, ra, rb, h11, hrv, hrs⟩, h12, ⟨f13, h13⟩, ⟨nm, h14, hnm⟩, h15, h16, ⟨r17, h17⟩, hn0, hB, hnx, hct, hSB, hIB, him, hfk⟩ := hX
  exact ⟨3, 17, f, r17, rfl, hX0.rk hM, h17, rfl, (fun R1 F1 => ⟨fun z m_ cl_ ct_ R_ F_ => k1 R1 F1 _ z ⟨⟨sd, h0⟩, h1, h2, h3, h4, h5, h6, h7, ⟨_, _, _, _, _, rfl, rfl, rfl⟩, ⟨rv, rk, rs, rn, ro, rl_, rln, rmd, ra, rb, h11, hrv, hrs⟩, h12, ⟨f13, h13⟩, ⟨nm, h14, hnm⟩, h15, h16, ⟨_, rfl⟩, hn0, hB, hnx, hct, hSB, hIB, him, hfk⟩ rfl (((mr_Fr.rf w).up _ (by decide)).S _ _ _ _ _), fun z m_ cl_ ct_ R_ F_ => k0 R1 F1 _ z ⟨⟨sd, h0⟩, h1, h2, h3, h4, h5, h6, h7, ⟨_, _, _, _, _, rfl, rfl, rfl⟩, ⟨rv, rk, rs, rn, ro, rl_, rln, rmd, ra, rb, h11, hrv, hrs⟩, h12, ⟨f13, h13⟩, ⟨nm, h14, hnm⟩, h15, h16, ⟨_, rfl⟩, hn0, hB, hnx, hct, hSB, hIB, him, hfk⟩ (((mr_Fr.rf w).up _ (by decide)).S _ _ _ _ _)⟩)⟩
theorem xs_findW {w : mr_Wd} {n0 nx ct fk : Int} {g f im : Nat → Int} {S I : Nat → Nat → Int}  {Po : Option mr_AV → mr_Wd → Prop} (hX : mr_XS w (n0, g, f, nx, ct, S, I, im, fk)) (hM : 1 ≤ f 0) (k1 : ∀ (R1 F1 : Nat → Nat → Int) (j : Int) (w' : mr_Wd), 0 ≤ j → j < f 2 → mr_wsh f (mr_shW f R1 F1) j → (∀ j' : Int, j < j' → j' < f 2 → ¬ mr_wsh f (mr_shW f R1 F1) j') → mr_XS w' (n0, g, f, nx, ct, S, I, im, fk) → w' 17 = eA 0 3 (mr_wr f (mr_shW f R1 F1) j) → mr_Fr w w' → Po (some (vI 1)) w') (k0 : ∀ (R1 F1 : Nat → Nat → Int) (w' : mr_Wd), (∀ j : Int, 0 ≤ j → j < f 2 → ¬ mr_wsh f (mr_shW f R1 F1) j) → mr_XS w' (n0, g, f, nx, ct, S, I, im, fk) → mr_Fr w w' → Po (some (vI 0)) w') : T_X3_findWitness [vR 7 0, vR 3 0, vR 17 0] w Po := by
  have hX0 := hX
  obtain ⟨⟨sd, h0⟩, h1, h2, h3, h4, h5, h6, h7, ⟨m0, cl0, ct0, R0, F0, hS⟩, ⟨rv, rk, rs, rn, ro, rl_, rln, rmd, ra, rb, h11, hrv, hrs⟩, h12, ⟨f13, h13⟩, ⟨nm, h14, hnm⟩, h15, h16, ⟨r17, h17⟩, hn0, hB, hnx, hct, hSB, hIB, him, hfk⟩ := hX
  exact ⟨3, 17, f, r17, rfl, hX0.rk hM, h17, rfl, (fun R1 F1 => ⟨fun j z1 z2 z3 z4 m_ cl_ ct_ R_ F_ => k1 R1 F1 j _ z1 z2 z3 z4 ⟨⟨sd, h0⟩, h1, h2, h3, h4, h5, h6, h7, ⟨_, _, _, _, _, rfl, rfl, rfl⟩, ⟨rv, rk, rs, rn, ro, rl_, rln, rmd, ra, rb, h11, hrv, hrs⟩, h12, ⟨f13, h13⟩, ⟨nm, h14, hnm⟩, h15, h16, ⟨_, rfl⟩, hn0, hB, hnx, hct, hSB, hIB, him, hfk⟩ rfl (((mr_Fr.rf w).up _ (by decide)).S _ _ _ _ _), fun z r m_ cl_ ct_ R_ F_ => k0 R1 F1 _ z ⟨⟨sd, h0⟩, h1, h2, h3, h4, h5, h6, h7, ⟨_, _, _, _, _, rfl, rfl, rfl⟩, ⟨rv, rk, rs, rn, ro, rl_, rln, rmd, ra, rb, h11, hrv, hrs⟩, h12, ⟨f13, h13⟩, ⟨nm, h14, hnm⟩, h15, h16, ⟨_, rfl⟩, hn0, hB, hnx, hct, hSB, hIB, him, hfk⟩ (((mr_Fr.rf w).up _ (by decide)).S _ _ _ _ _)⟩)⟩
theorem mr_b4_at : True := trivial
theorem xs_append {w : mr_Wd} {n0 nx ct fk : Int} {g f im : Nat → Int} {S I : Nat → Nat → Int} {x : Int} {Po : Option mr_AV → mr_Wd → Prop} (hX : mr_XS w (n0, g, f, nx, ct, S, I, im, fk)) (hn : n0 ≤ 536) (k : ∀ w' : mr_Wd, mr_XS w' (n0 + 4, mr_b4 g n0 x, f, nx, ct, S, I, im, fk) → mr_Fr w w' → Po none w') : T_X5_append [vR 1 0, vI x] w Po := by
  have hX0 := hX
  obtain ⟨⟨sd, h0⟩, h1, h2, h3, h4, h5, h6, h7, ⟨m0, cl0, ct0, R0, F0, hS⟩, ⟨rv, rk, rs, rn, ro, rl_, rln, rmd, ra, rb, h11, hrv, hrs⟩, h12, ⟨f13, h13⟩, ⟨nm, h14, hnm⟩, h15, h16, ⟨r17, h17⟩, hn0, hB, hnx, hct, hSB, hIB, him, hfk⟩ := hX
  exact ⟨n0, x, g, rfl, ⟨h1, h2⟩, ⟨hn0.1, hn⟩, k _ ⟨⟨sd, h0⟩, rfl, rfl, h3, h4, h5, h6, h7, ⟨m0, cl0, ct0, R0, F0, hS⟩, ⟨rv, rk, rs, rn, ro, rl_, rln, rmd, ra, rb, h11, hrv, hrs⟩, h12, ⟨f13, h13⟩, ⟨nm, h14, hnm⟩, h15, h16, ⟨r17, h17⟩, ⟨by omega, by omega⟩, hB, hnx, hct, hSB, hIB, him, hfk⟩ (((mr_Fr.rf w).up _ (by decide)).up _ (by decide))⟩
theorem xs_cut {w : mr_Wd} {n0 nx ct fk : Int} {g f im : Nat → Int} {S I : Nat → Nat → Int} {x : Int} {Po : Option mr_AV → mr_Wd → Prop} (hX : mr_XS w (n0, g, f, nx, ct, S, I, im, fk)) (hx : InR x) (k1 : 0 ≤ x ∧ x ≤ n0 → ∀ w' : mr_Wd, mr_XS w' (x, g, f, nx, ct, S, I, im, fk) → mr_Fr w w' → Po (some (vI 1)) w') (k0 : ¬ (0 ≤ x ∧ x ≤ n0) → Po (some (vI 0)) w) : T_X5_cut [vR 1 0, vI x] w Po := by
  have hX0 := hX
  obtain ⟨⟨sd, h0⟩, h1, h2, h3, h4, h5, h6, h7, ⟨m0, cl0, ct0, R0, F0, hS⟩, ⟨rv, rk, rs, rn, ro, rl_, rln, rmd, ra, rb, h11, hrv, hrs⟩, h12, ⟨f13, h13⟩, ⟨nm, h14, hnm⟩, h15, h16, ⟨r17, h17⟩, hn0, hB, hnx, hct, hSB, hIB, him, hfk⟩ := hX
  exact ⟨n0, x, g, rfl, ⟨h1, h2⟩, hn0, hx, fun z => k1 z _ ⟨⟨sd, h0⟩, rfl, h2, h3, h4, h5, h6, h7, ⟨m0, cl0, ct0, R0, F0, hS⟩, ⟨rv, rk, rs, rn, ro, rl_, rln, rmd, ra, rb, h11, hrv, hrs⟩, h12, ⟨f13, h13⟩, ⟨nm, h14, hnm⟩, h15, h16, ⟨r17, h17⟩, ⟨by omega, by omega⟩, hB, hnx, hct, hSB, hIB, him, hfk⟩ ((mr_Fr.rf w).up _ (by decide)), k0⟩
