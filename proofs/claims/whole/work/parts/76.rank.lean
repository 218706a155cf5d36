/-! ranks: the rows of a form one by one -/
abbrev mr_D (M : Int) (F : Nat → mr_V) (c : Nat) : Int := mr_hat M F c c
abbrev mr_Ch (M : Int) (F : Nat → mr_V) (c : Nat) : Int := M / mr_hat M F c c
def mr_rho (M : Int) (F : Nat → mr_V) (x : mr_V) : Int := x 0 / mr_D M F 0 * (mr_Ch M F 1 * mr_Ch M F 2) + x 1 / mr_D M F 1 * mr_Ch M F 2 + x 2 / mr_D M F 2
def mr_Sz (M : Int) (F : Nat → mr_V) : Int := mr_Ch M F 0 * (mr_Ch M F 1 * mr_Ch M F 2)
theorem mr_mix {a0 a1 a2 b0 b1 b2 C1 C2 : Int} (h1 : 0 ≤ a1 ∧ a1 < C1) (h2 : 0 ≤ a2 ∧ a2 < C2) (h0 : a0 < b0) (g1 : 0 ≤ b1) (g2 : 0 ≤ b2) : a0 * (C1 * C2) + a1 * C2 + a2 < b0 * (C1 * C2) + b1 * C2 + b2 := by
  have p1 : a1 * C2 ≤ (C1 - 1) * C2 := Int.mul_le_mul_of_nonneg_right (by omega) (by omega)
  rw [Int.sub_mul, Int.one_mul] at p1
  have p0 : 0 ≤ C1 * C2 := Int.mul_nonneg (by omega) (by omega)
  have p2 : (a0 + 1) * (C1 * C2) ≤ b0 * (C1 * C2) := Int.mul_le_mul_of_nonneg_right (by omega) p0
  rw [Int.add_mul, Int.one_mul] at p2
  have p3 : 0 ≤ b1 * C2 := Int.mul_nonneg g1 (by omega)
  omega
theorem mr_hD {M : Int} (hM : 1 ≤ M) {w : Nat} {F : Nat → mr_V} {L : mr_V → Prop} (h : mr_Fo M w F L) {c : Nat} (hc : c < 3) : 1 ≤ mr_D M F c ∧ 1 ≤ mr_Ch M F c ∧ mr_D M F c * mr_Ch M F c = M := by
  obtain ⟨h1, h2, h3⟩ := mr_hat_le hM h hc
  have h1' : 1 ≤ mr_D M F c := h1
  have e : mr_D M F c * mr_Ch M F c = M := Int.mul_ediv_cancel' h3
  refine ⟨h1, ?_, e⟩
  rcases (show 1 ≤ mr_Ch M F c ∨ mr_Ch M F c ≤ 0 by omega) with q | q
  · exact q
  · have : mr_D M F c * mr_Ch M F c ≤ 0 := Int.mul_nonpos_of_nonneg_of_nonpos (by omega) q
    omega
theorem mr_dg {M : Int} (hM : 1 ≤ M) {w : Nat} {F : Nat → mr_V} {L : mr_V → Prop} (h : mr_Fo M w F L) {c : Nat} (hc : c < 3) {v : Int} (hv : 0 ≤ v ∧ v < M) : 0 ≤ v / mr_D M F c ∧ v / mr_D M F c < mr_Ch M F c := by
  obtain ⟨h1, h2, h3⟩ := mr_hD hM h hc
  refine ⟨Int.ediv_nonneg hv.1 (by omega), Int.ediv_lt_of_lt_mul (by omega) ?_⟩
  rw [Int.mul_comm, h3]
  exact hv.2
theorem mr_rho_bd {M : Int} (hM : 1 ≤ M) {w : Nat} {F : Nat → mr_V} {L : mr_V → Prop} (h : mr_Fo M w F L) {x : mr_V} (hx : mr_box M x) : 0 ≤ mr_rho M F x ∧ mr_rho M F x < mr_Sz M F := by
  have d0 := mr_dg hM h (c := 0) (by decide) (hx 0 (by decide))
  have d1 := mr_dg hM h (c := 1) (by decide) (hx 1 (by decide))
  have d2 := mr_dg hM h (c := 2) (by decide) (hx 2 (by decide))
  have c1 := (mr_hD hM h (c := 1) (by decide)).2.1
  have c2 := (mr_hD hM h (c := 2) (by decide)).2.1
  have m := mr_mix d1 d2 d0.2 (b1 := 0) (b2 := 0) (Int.le_refl 0) (Int.le_refl 0)
  rw [Int.zero_mul] at m
  refine ⟨Int.add_nonneg (Int.add_nonneg (Int.mul_nonneg d0.1 (Int.mul_nonneg (by omega) (by omega))) (Int.mul_nonneg d1.1 (by omega))) d2.1, ?_⟩
  show mr_rho M F x < mr_Ch M F 0 * (mr_Ch M F 1 * mr_Ch M F 2)
  unfold mr_rho
  omega
theorem mr_dq {d x y : Int} (hd : 1 ≤ d) (h : d ∣ y - x) (hl : x < y) : x / d < y / d := by
  obtain ⟨m, hm⟩ := h
  have e : y = x + m * d := by rw [Int.mul_comm]; omega
  rw [e, Int.add_mul_ediv_right _ _ (by omega)]
  rcases (show 1 ≤ m ∨ m ≤ 0 by omega) with q | q
  · omega
  · have := Int.mul_nonpos_of_nonneg_of_nonpos (show 0 ≤ d by omega) q
    omega
theorem mr_rho_mo {M : Int} (hM : 1 ≤ M) {w : Nat} {F : Nat → mr_V} {L : mr_V → Prop} (h : mr_Fo M w F L) {x y : mr_V} (hx : mr_box M x) (hy : mr_box M y) (lx : L x) (ly : L y) (hl : mr_lex x y) : mr_rho M F x < mr_rho M F y := by
  have hD := mr_Lat_sub h.1 ly lx
  have dv : ∀ c, c < 3 → (∀ j, j < c → x j = y j) → mr_D M F c ∣ y c - x c := fun c hc he => (h.2.2.2.1 c hc).2.2.2.1 _ hD (fun j hj => by show y j - x j = 0; rw [he j hj]; omega)
  have x1 := mr_dg hM h (c := 1) (by decide) (hx 1 (by decide))
  have x2 := mr_dg hM h (c := 2) (by decide) (hx 2 (by decide))
  have y1 := mr_dg hM h (c := 1) (by decide) (hy 1 (by decide))
  have y2 := mr_dg hM h (c := 2) (by decide) (hy 2 (by decide))
  rcases hl with e0 | ⟨e0, e1 | ⟨e1, e2⟩⟩
  · exact mr_mix x1 x2 (mr_dq (mr_hD hM h (c := 0) (by decide)).1 (dv 0 (by decide) (fun j hj => by omega)) e0) y1.1 y2.1
  · have q := mr_dq (mr_hD hM h (c := 1) (by decide)).1 (dv 1 (by decide) (fun j hj => by rw [show j = 0 by omega]; exact e0)) e1
    have m := mr_mix (a0 := 0) (b0 := 0 + 1) (a1 := x 1 / mr_D M F 1) (C1 := mr_Ch M F 1) (b1 := 0) (b2 := 0) x1 x2 (by decide) (Int.le_refl 0) (Int.le_refl 0)
    have m2 := mr_mix (a0 := x 1 / mr_D M F 1) (b0 := y 1 / mr_D M F 1) (a1 := 0) (C1 := 1) (b1 := 0) (b2 := y 2 / mr_D M F 2) (by decide) x2 q (Int.le_refl 0) y2.1
    unfold mr_rho
    rw [e0]
    rw [Int.one_mul] at m2
    omega
  · have q := mr_dq (mr_hD hM h (c := 2) (by decide)).1 (dv 2 (by decide) (fun j hj => by rcases (show j = 0 ∨ j = 1 by omega) with rfl | rfl <;> assumption)) e2
    unfold mr_rho
    rw [e0, e1]
    omega
/-- a multiple of a row of the form comes to a row -/
theorem mr_stp1 {M : Int} (hM : 1 ≤ M) {w : Nat} {F : Nat → mr_V} {L : mr_V → Prop} (h : mr_Fo M w F L) {c : Nat} (hc : c < 3) {r r' : mr_V} (hr : mr_box M r) (t : Int) (e : ∀ j, j < 3 → r' j = (r j + t * mr_hat M F c j) % M) : mr_box M r' ∧ (∀ j, j < c → r' j = r j) ∧ L (fun j => r' j - r j) := by
  refine ⟨fun j hj => by rw [e j hj]; exact mr_em (by omega) _, fun j hj => ?_, ?_⟩
  · rw [e j (by omega), (h.2.2.2.1 c hc).2.1 j hj, Int.mul_zero, Int.add_zero]
    exact Int.emod_eq_of_lt (hr j (by omega)).1 (hr j (by omega)).2
  · refine mr_Fo_mod h (x := fun j => t * mr_hat M F c j) (fun j hj => ?_) (mr_Lat_smul h.1 t (h.2.2.2.1 c hc).1)
    show M ∣ r' j - r j - t * mr_hat M F c j
    rw [e j hj]
    have := mr_dvd_self_emod M (r j + t * mr_hat M F c j)
    rw [show (r j + t * mr_hat M F c j) % M - r j - t * mr_hat M F c j = (r j + t * mr_hat M F c j) % M - (r j + t * mr_hat M F c j) by omega]
    exact this
/-- to a chosen digit -/
theorem mr_stp2 {M : Int} (hM : 1 ≤ M) {w : Nat} {F : Nat → mr_V} {L : mr_V → Prop} (h : mr_Fo M w F L) {c : Nat} (hc : c < 3) {r r' : mr_V} (hr : mr_box M r) {q : Int} (hq : 0 ≤ q ∧ q < mr_Ch M F c) (e : ∀ j, j < 3 → r' j = (r j + (q - r c / mr_D M F c) * mr_hat M F c j) % M) : r' c / mr_D M F c = q ∧ r' c % mr_D M F c = r c % mr_D M F c := by
  obtain ⟨h1, h2, h3⟩ := mr_hD hM h hc
  have hm := mr_em (show 0 < mr_D M F c by omega) (r c)
  have e1 : r c + (q - r c / mr_D M F c) * mr_hat M F c c = r c % mr_D M F c + q * mr_D M F c := by
    have := Int.emod_add_mul_ediv (r c) (mr_D M F c)
    show r c + (q - r c / mr_D M F c) * mr_D M F c = _
    rw [Int.sub_mul, Int.mul_comm (r c / mr_D M F c)]
    omega
  have q1 : (q + 1) * mr_D M F c ≤ mr_Ch M F c * mr_D M F c := Int.mul_le_mul_of_nonneg_right (by omega) (by omega)
  rw [Int.mul_comm (mr_Ch M F c), h3, Int.add_mul, Int.one_mul] at q1
  have q0 : 0 ≤ q * mr_D M F c := Int.mul_nonneg hq.1 (by omega)
  have e2 : r' c = r c % mr_D M F c + q * mr_D M F c := by
    rw [e c hc, e1]
    exact Int.emod_eq_of_lt (by omega) (by omega)
  rw [e2]
  refine ⟨?_, ?_⟩
  · rw [Int.add_mul_ediv_right _ _ (by omega), Int.ediv_eq_zero_of_lt hm.1 hm.2]
    omega
  · rw [Int.add_mul_emod_self_right, Int.emod_emod_of_dvd _ (Int.dvd_refl _)]
def mr_gs (M : Int) (F : Nat → mr_V) (c : Nat) (q : Int) (r : mr_V) : mr_V := fun j => (r j + (q - r c / mr_D M F c) * mr_hat M F c j) % M
theorem mr_rho_ex {M : Int} (hM : 1 ≤ M) {w : Nat} {F : Nat → mr_V} {L : mr_V → Prop} (h : mr_Fo M w F L) {q0 q1 q2 : Int} (h0 : 0 ≤ q0 ∧ q0 < mr_Ch M F 0) (h1 : 0 ≤ q1 ∧ q1 < mr_Ch M F 1) (h2 : 0 ≤ q2 ∧ q2 < mr_Ch M F 2) : ∃ x : mr_V, mr_box M x ∧ L x ∧ x 0 / mr_D M F 0 = q0 ∧ x 1 / mr_D M F 1 = q1 ∧ x 2 / mr_D M F 2 = q2 := by
  have b0 : mr_box M (fun _ => 0) := fun j _ => ⟨Int.le_refl 0, by show (0 : Int) < M; omega⟩
  have s0 := mr_stp1 hM h (c := 0) (by decide) b0 _ (fun j _ => rfl : ∀ j, j < 3 → mr_gs M F 0 q0 (fun _ => 0) j = _)
  have t0 := mr_stp2 hM h (c := 0) (by decide) b0 h0 (fun j _ => rfl : ∀ j, j < 3 → mr_gs M F 0 q0 (fun _ => 0) j = _)
  generalize mr_gs M F 0 q0 (fun _ => 0) = y0 at s0 t0
  have s1 := mr_stp1 hM h (c := 1) (by decide) s0.1 _ (fun j _ => rfl : ∀ j, j < 3 → mr_gs M F 1 q1 y0 j = _)
  have t1 := mr_stp2 hM h (c := 1) (by decide) s0.1 h1 (fun j _ => rfl : ∀ j, j < 3 → mr_gs M F 1 q1 y0 j = _)
  generalize mr_gs M F 1 q1 y0 = y1 at s1 t1
  have s2 := mr_stp1 hM h (c := 2) (by decide) s1.1 _ (fun j _ => rfl : ∀ j, j < 3 → mr_gs M F 2 q2 y1 j = _)
  have t2 := mr_stp2 hM h (c := 2) (by decide) s1.1 h2 (fun j _ => rfl : ∀ j, j < 3 → mr_gs M F 2 q2 y1 j = _)
  generalize mr_gs M F 2 q2 y1 = y2 at s2 t2
  refine ⟨y2, s2.1, ?_, ?_, ?_, t2.1⟩
  · have a := mr_Lat_add h.1 (mr_Lat_add h.1 s0.2.2 s1.2.2) s2.2.2
    refine h.1.1 _ _ (fun j _ => ?_) a
    show y0 j - 0 + (y1 j - y0 j) + (y2 j - y1 j) = y2 j
    omega
  · rw [s2.2.1 0 (by decide), s1.2.1 0 (by decide)]; exact t0.1
  · rw [s2.2.1 1 (by decide)]; exact t1.1
theorem mr_rho_sj {M : Int} (hM : 1 ≤ M) {w : Nat} {F : Nat → mr_V} {L : mr_V → Prop} (h : mr_Fo M w F L) {k : Int} (hk : 0 ≤ k ∧ k < mr_Sz M F) : ∃ x : mr_V, mr_box M x ∧ L x ∧ mr_rho M F x = k := by
  have c1 := (mr_hD hM h (c := 1) (by decide)).2.1
  have c2 := (mr_hD hM h (c := 2) (by decide)).2.1
  have c12 : 0 < mr_Ch M F 1 * mr_Ch M F 2 := Int.mul_pos (by omega) (by omega)
  have m1 := mr_em c12 k
  have e1 := Int.emod_add_mul_ediv k (mr_Ch M F 1 * mr_Ch M F 2)
  have m2 := mr_em (show 0 < mr_Ch M F 2 by omega) (k % (mr_Ch M F 1 * mr_Ch M F 2))
  have e2 := Int.emod_add_mul_ediv (k % (mr_Ch M F 1 * mr_Ch M F 2)) (mr_Ch M F 2)
  obtain ⟨x, b, l, r0, r1, r2⟩ := mr_rho_ex hM h (q0 := k / (mr_Ch M F 1 * mr_Ch M F 2)) (q1 := k % (mr_Ch M F 1 * mr_Ch M F 2) / mr_Ch M F 2) (q2 := k % (mr_Ch M F 1 * mr_Ch M F 2) % mr_Ch M F 2) ⟨Int.ediv_nonneg hk.1 (by omega), Int.ediv_lt_of_lt_mul c12 hk.2⟩ ⟨Int.ediv_nonneg m1.1 (by omega), Int.ediv_lt_of_lt_mul (by omega) m1.2⟩ m2
  refine ⟨x, b, l, ?_⟩
  unfold mr_rho
  rw [r0, r1, r2, Int.mul_comm (k / _), Int.mul_comm (_ / mr_Ch M F 2)]
  omega
theorem mr_rho_in {M : Int} (hM : 1 ≤ M) {w : Nat} {F : Nat → mr_V} {L : mr_V → Prop} (h : mr_Fo M w F L) {x y : mr_V} (hx : mr_box M x) (hy : mr_box M y) (lx : L x) (ly : L y) (e : mr_rho M F x = mr_rho M F y) : ∀ j, j < 3 → x j = y j := by
  rcases mr_lex_tri x y with g | g | g
  · have := mr_rho_mo hM h hx hy lx ly g; omega
  · have := mr_rho_mo hM h hy hx ly lx g; omega
  · exact g
theorem mr_rho_cg {M : Int} {F : Nat → mr_V} {x y : mr_V} (g : ∀ j, j < 3 → x j = y j) : mr_rho M F x = mr_rho M F y := by
  unfold mr_rho
  rw [g 0 (by decide), g 1 (by decide), g 2 (by decide)]
/-- how many rows are below a bound -/
theorem mr_cntB {M : Int} (hM : 1 ≤ M) {w : Nat} {F : Nat → mr_V} {L : mr_V → Prop} (h : mr_Fo M w F L) {B : Nat} (hB : (B : Int) ≤ M * M * M) {R : Int} (hR : 0 ≤ R ∧ R ≤ mr_Sz M F) (hb : ∀ y : mr_V, mr_box M y → L y → (mr_ec M y < B ↔ mr_rho M F y < R)) {n : Nat} {a : Nat → Nat} (hE : mr_En B (fun r => mr_S M L r) n a) : (n : Int) = R := by
  have hM0 : 0 < M := by omega
  have bx : ∀ r : Nat, r < B → mr_box M (mr_dec M r) := fun r hr => mr_dec_box hM0 (by omega) (by omega)
  have ed : ∀ r : Nat, r < B → mr_ec M (mr_dec M r) = r := fun r hr => mr_ec_dec hM0 (by omega) (by omega)
  have rb : ∀ r : Nat, r < B → mr_S M L r → 0 ≤ mr_rho M F (mr_dec M r) ∧ mr_rho M F (mr_dec M r) < R := fun r hr hs => ⟨(mr_rho_bd hM h (bx r hr)).1, (hb _ (bx r hr) hs).mp (by rw [ed r hr]; omega)⟩
  have id1 : mr_En R.toNat (fun _ => True) R.toNat (fun k => k) := ⟨fun k hk => ⟨hk, trivial⟩, fun r hr _ => ⟨r, hr, rfl⟩, fun i k _ _ e => e⟩
  have le1 : n ≤ R.toNat := mr_En_le hE id1 (fun r => (mr_rho M F (mr_dec M r)).toNat) (fun r hr hs => ⟨by have := rb r hr hs; omega, trivial⟩) (fun r s hr hs h1 h2 e => by
    have a1 := rb r hr h1
    have a2 := rb s hs h2
    have e' : (mr_rho M F (mr_dec M r)).toNat = (mr_rho M F (mr_dec M s)).toNat := e
    have e1 := mr_rho_in hM h (bx r hr) (bx s hs) h1 h2 (by omega)
    have e2 := mr_ec_cg (M := M) (x := mr_dec M r) (y := mr_dec M s) (fun j hj => by rw [e1 j hj]; exact mr_dvd_same M _)
    rw [ed r hr, ed s hs] at e2
    omega)
  have hx : ∀ k : Nat, ∃ x : mr_V, (k : Int) < R → mr_box M x ∧ L x ∧ mr_rho M F x = k := fun k => by
    by_cases c : (k : Int) < R
    · obtain ⟨x, g⟩ := mr_rho_sj hM h (k := k) ⟨by omega, by omega⟩
      exact ⟨x, fun _ => g⟩
    · exact ⟨fun _ => 0, fun z => absurd z c⟩
  have xs : ∀ k : Nat, k < R.toNat → mr_box M (Classical.choose (hx k)) ∧ L (Classical.choose (hx k)) ∧ mr_rho M F (Classical.choose (hx k)) = k := fun k hk => Classical.choose_spec (hx k) (by omega)
  have le2 : R.toNat ≤ n := mr_En_le id1 hE (fun k => (mr_ec M (Classical.choose (hx k))).toNat) (fun k hk _ => by
    obtain ⟨g1, g2, g3⟩ := xs k hk
    have b := mr_ec_bd hM0 (Classical.choose (hx k))
    have lt := (hb _ g1 g2).mpr (by omega)
    refine ⟨by omega, ?_⟩
    show mr_S M L ((mr_ec M (Classical.choose (hx k))).toNat : Nat)
    rw [Int.toNat_of_nonneg b.1]
    exact (mr_S_ec hM0 h.1 h.2.1 _).mpr g2) (fun k s hk hs _ _ e => by
    obtain ⟨g1, g2, g3⟩ := xs k hk
    obtain ⟨k1, k2, k3⟩ := xs s hs
    have b := mr_ec_bd hM0 (Classical.choose (hx k))
    have b' := mr_ec_bd hM0 (Classical.choose (hx s))
    have e' : (mr_ec M (Classical.choose (hx k))).toNat = (mr_ec M (Classical.choose (hx s))).toNat := e
    have e1 := mr_ec_inj hM0 (x := Classical.choose (hx k)) (y := Classical.choose (hx s)) (by omega)
    have e2 : ∀ j, j < 3 → Classical.choose (hx k) j = Classical.choose (hx s) j := fun j hj => by
      have d := e1 j hj
      have g := g1 j hj
      have q := k1 j hj
      have := mr_dvd_small d (by omega) (by omega)
      omega
    have e3 : mr_rho M F (Classical.choose (hx k)) = mr_rho M F (Classical.choose (hx s)) := mr_rho_cg e2
    omega)
  omega
theorem mr_cnt_sz {M : Int} (hM : 1 ≤ M) {w : Nat} {F : Nat → mr_V} {L : mr_V → Prop} (h : mr_Fo M w F L) {n : Nat} {a : Nat → Nat} (hE : mr_En (M * M * M).toNat (fun r => mr_S M L r) n a) : (n : Int) = mr_Sz M F := by
  have h3 : 0 < M * M * M := Int.mul_pos (Int.mul_pos (by omega) (by omega)) (by omega)
  have z : mr_box M (fun _ => 0) := fun j _ => ⟨Int.le_refl 0, by show (0 : Int) < M; omega⟩
  have zb := mr_rho_bd hM h z
  exact mr_cntB hM h (by omega) ⟨by omega, Int.le_refl _⟩ (fun y hy _ => ⟨fun _ => (mr_rho_bd hM h hy).2, fun _ => by have := (mr_ec_bd (M := M) (by omega) y).2; omega⟩) hE
theorem mr_Lp_sz {M : Int} (hM : 1 ≤ M) {w : Nat} {F : Nat → mr_V} {L : mr_V → Prop} (h : mr_Fo M w F L) {st li : Nat → Int} {n : Nat} (hp : mr_Lp M st li n (mr_S M L)) : (n : Int) = mr_Sz M F := mr_cnt_sz hM h (mr_Lp_En hp)
theorem mr_Lp_rk {M : Int} (hM : 1 ≤ M) {w : Nat} {F : Nat → mr_V} {L : mr_V → Prop} (h : mr_Fo M w F L) {st : Nat → Int} (hp : mr_St M st (mr_S M L)) {x : mr_V} (hx : mr_box M x) (lx : L x) : mr_sm (mr_ec M x).toNat st = mr_rho M F x := by
  have hM0 : 0 < M := by omega
  have b := mr_ec_bd hM0 x
  obtain ⟨n, a, h1, h2⟩ := mr_En_sm hp.1 (mr_ec M x).toNat
  rw [h2]
  have rb := mr_rho_bd hM h hx
  have hE : mr_En (mr_ec M x).toNat (fun r => mr_S M L r) n a := ⟨fun k hk => ⟨(h1.1 k hk).1, (hp.2 _ (by have := (h1.1 k hk).1; omega)).mp (h1.1 k hk).2⟩, fun r hr hs => h1.2.1 r hr ((hp.2 r (by omega)).mpr hs), h1.2.2⟩
  refine mr_cntB hM h (B := (mr_ec M x).toNat) (by omega) (R := mr_rho M F x) ⟨rb.1, by omega⟩ (fun y hy ly => ?_) hE
  rw [Int.toNat_of_nonneg b.1]
  rcases mr_lex_tri y x with g | g | g
  · exact ⟨fun _ => mr_rho_mo hM h hy hx ly lx g, fun _ => mr_ec_lt hM0 hy hx g⟩
  · have a1 := mr_rho_mo hM h hx hy lx ly g
    have a2 := mr_ec_lt hM0 hx hy g
    exact ⟨fun _ => by omega, fun _ => by omega⟩
  · have e1 : mr_ec M y = mr_ec M x := mr_ec_cg (fun j hj => by rw [g j hj]; exact mr_dvd_same M _)
    have e2 : mr_rho M F y = mr_rho M F x := by unfold mr_rho; rw [g 0 (by decide), g 1 (by decide), g 2 (by decide)]
    exact ⟨fun _ => by omega, fun _ => by omega⟩
/-- as many beside -/
theorem mr_Lp_cs {M : Int} (hM : 1 ≤ M) {w : Nat} {F : Nat → mr_V} {L : mr_V → Prop} (h : mr_Fo M w F L) {x0 : mr_V} {st li : Nat → Int} {n : Nat} (hp : mr_Lp M st li n (fun r : Int => L (fun j => mr_dec M r j - x0 j))) : (n : Int) = mr_Sz M F := by
  have hM0 : 0 < M := by omega
  have h3 : 0 < M * M * M := Int.mul_pos (Int.mul_pos hM0 hM0) hM0
  obtain ⟨m, a, hE⟩ := mr_En_ex (fun r => mr_S M L r) (M * M * M).toNat
  rw [← mr_cnt_sz hM h hE]
  have hp' := mr_Lp_En hp
  have key : ∀ (S S' : Int → Prop) (y : mr_V) (k k' : Nat) (b b' : Nat → Nat), mr_En (M * M * M).toNat (fun r => S r) k b → mr_En (M * M * M).toNat (fun r => S' r) k' b' → (∀ r : Int, S r → S' (mr_ec M (fun j => mr_dec M r j + y j))) → k ≤ k' := fun S S' y k k' b b' e1 e2 hs => by
    refine mr_En_le e1 e2 (fun r => (mr_ec M (fun j => mr_dec M r j + y j)).toNat) (fun r hr h1 => ?_) (fun r s hr hs' h1 h2 e => ?_)
    · have bd := mr_ec_bd hM0 (fun j => mr_dec M r j + y j)
      refine ⟨by omega, ?_⟩
      show S' ((mr_ec M (fun j => mr_dec M r j + y j)).toNat : Nat)
      rw [Int.toNat_of_nonneg bd.1]
      exact hs r h1
    · have b1 := mr_ec_bd hM0 (fun j => mr_dec M r j + y j)
      have b2 := mr_ec_bd hM0 (fun j => mr_dec M s j + y j)
      have e' : (mr_ec M (fun j => mr_dec M r j + y j)).toNat = (mr_ec M (fun j => mr_dec M s j + y j)).toNat := e
      have e3 := mr_ec_inj hM0 (x := fun j => mr_dec M r j + y j) (y := fun j => mr_dec M s j + y j) (by omega)
      have e4 := mr_ec_cg (M := M) (x := mr_dec M r) (y := mr_dec M s) (fun j hj => by
        have := e3 j hj
        rw [show mr_dec M r j + y j - (mr_dec M s j + y j) = mr_dec M r j - mr_dec M s j by omega] at this
        exact this)
      rw [mr_ec_dec hM0 (by omega) (by omega), mr_ec_dec hM0 (by omega) (by omega)] at e4
      omega
  have l1 := key _ (mr_S M L) (fun j => - x0 j) n m _ _ hp' hE (fun r h1 => (mr_S_ec hM0 h.1 h.2.1 _).mpr (h.1.1 _ _ (fun j _ => by show mr_dec M r j - x0 j = mr_dec M r j + - x0 j; omega) h1))
  have l2 := key (mr_S M L) (fun r : Int => L (fun j => mr_dec M r j - x0 j)) x0 m n _ _ hE hp' (fun r h1 => by
    refine mr_Fo_mod h (x := mr_dec M r) (fun j hj => ?_) h1
    show M ∣ mr_dec M (mr_ec M (fun j => mr_dec M r j + x0 j)) j - x0 j - mr_dec M r j
    rw [mr_dec_ec hM0 _ j hj]
    have := mr_dvd_self_emod M (mr_dec M r j + x0 j)
    rw [show (mr_dec M r j + x0 j) % M - x0 j - mr_dec M r j = (mr_dec M r j + x0 j) % M - (mr_dec M r j + x0 j) by omega]
    exact this)
  omega
