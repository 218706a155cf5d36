/-! WITNESS: the dual -/
theorem mr_red {M : Int} (hM : 1 ≤ M) {w : Nat} {F : Nat → mr_V} {L : mr_V → Prop} (h : mr_Fo M w F L) {x : mr_V} (hx : mr_box M x) : ∃ y : mr_V, mr_box M y ∧ (∀ j, j < 3 → y j < mr_D M F j) ∧ L (fun j => x j - y j) := by
  have hC : ∀ c, c < 3 → (0 : Int) ≤ 0 ∧ 0 < mr_Ch M F c := fun c hc => ⟨Int.le_refl 0, by have := (mr_hD hM h hc).2.1; omega⟩
  have hd : ∀ c, c < 3 → 1 ≤ mr_D M F c := fun c hc => (mr_hD hM h hc).1
  have s0 := mr_stp1 hM h (c := 0) (by decide) hx _ (fun j _ => rfl : ∀ j, j < 3 → mr_gs M F 0 0 x j = _)
  have t0 := mr_stp2 hM h (c := 0) (by decide) hx (hC 0 (by decide)) (fun j _ => rfl : ∀ j, j < 3 → mr_gs M F 0 0 x j = _)
  generalize mr_gs M F 0 0 x = y0 at s0 t0
  have s1 := mr_stp1 hM h (c := 1) (by decide) s0.1 _ (fun j _ => rfl : ∀ j, j < 3 → mr_gs M F 1 0 y0 j = _)
  have t1 := mr_stp2 hM h (c := 1) (by decide) s0.1 (hC 1 (by decide)) (fun j _ => rfl : ∀ j, j < 3 → mr_gs M F 1 0 y0 j = _)
  generalize mr_gs M F 1 0 y0 = y1 at s1 t1
  have s2 := mr_stp1 hM h (c := 2) (by decide) s1.1 _ (fun j _ => rfl : ∀ j, j < 3 → mr_gs M F 2 0 y1 j = _)
  have t2 := mr_stp2 hM h (c := 2) (by decide) s1.1 (hC 2 (by decide)) (fun j _ => rfl : ∀ j, j < 3 → mr_gs M F 2 0 y1 j = _)
  generalize mr_gs M F 2 0 y1 = y2 at s2 t2
  have l0 := mr_lt_of_q (M := M) (hd 0 (by decide)) (s0.1 0 (by decide)).1 t0.1
  have l1 := mr_lt_of_q (M := M) (hd 1 (by decide)) (s1.1 1 (by decide)).1 t1.1
  have l2 := mr_lt_of_q (M := M) (hd 2 (by decide)) (s2.1 2 (by decide)).1 t2.1
  refine ⟨y2, s2.1, fun j hj => ?_, ?_⟩
  · rcases (show j = 0 ∨ j = 1 ∨ j = 2 by omega) with e | e | e <;> subst e
    · rw [s2.2.1 0 (by decide), s1.2.1 0 (by decide)]; exact l0
    · rw [s2.2.1 1 (by decide)]; exact l1
    · exact l2
  · have a := mr_Lat_smul h.1 (-1) (mr_Lat_add h.1 (mr_Lat_add h.1 s0.2.2 s1.2.2) s2.2.2)
    refine h.1.1 _ _ (fun j _ => ?_) a
    show -1 * (y0 j - x j + (y1 j - y0 j) + (y2 j - y1 j)) = x j - y2 j
    omega
/-- a number before, so that it is nought on a row -/
theorem mr_du1 {M : Int} (hM : 1 ≤ M) {w : Nat} {F : Nat → mr_V} {L : mr_V → Prop} (h : mr_Fo M w F L) {u2 : Int} (h2 : M ∣ u2 * mr_hat M F 2 2) : ∃ u1 : Int, M ∣ u1 * mr_hat M F 1 1 + u2 * mr_hat M F 1 2 := by
  obtain ⟨d1, c1, e1⟩ := mr_hD hM h (c := 1) (by decide)
  have hL1 := (h.2.2.2.1 1 (by decide)).1
  have z1 : ∀ j, j < 1 → mr_hat M F 1 j = 0 := (h.2.2.2.1 1 (by decide)).2.1
  have zL : L (fun j => mr_Ch M F 1 * mr_hat M F 1 j + -1 * mr_e 1 M j) := h.1.2.2 _ _ (-1) (mr_Lat_smul h.1 (mr_Ch M F 1) hL1) (h.2.1 1 (by decide))
  have dv := (h.2.2.2.1 2 (by decide)).2.2.2.1 _ zL (fun j hj => by
    rcases (show j = 0 ∨ j = 1 by omega) with e | e <;> subst e
    · show mr_Ch M F 1 * mr_hat M F 1 0 + -1 * mr_e 1 M 0 = 0
      rw [z1 0 (by decide), mr_e_ne _ (by decide)]; simp
    · show mr_Ch M F 1 * mr_hat M F 1 1 + -1 * mr_e 1 M 1 = 0
      rw [mr_e_same, Int.mul_comm]
      have e1' : mr_hat M F 1 1 * mr_Ch M F 1 = M := e1
      omega)
  have dv' : mr_hat M F 2 2 ∣ mr_Ch M F 1 * mr_hat M F 1 2 := by
    have : mr_Ch M F 1 * mr_hat M F 1 2 + -1 * mr_e 1 M 2 = mr_Ch M F 1 * mr_hat M F 1 2 := by rw [mr_e_ne _ (by decide)]; simp
    rw [← this]; exact dv
  obtain ⟨q, hq⟩ := dv'
  have m1 : M ∣ mr_Ch M F 1 * (u2 * mr_hat M F 1 2) := by
    rw [show mr_Ch M F 1 * (u2 * mr_hat M F 1 2) = u2 * mr_hat M F 2 2 * q by rw [Int.mul_assoc, ← hq, ← Int.mul_assoc, Int.mul_comm (mr_Ch M F 1), Int.mul_assoc]]
    exact Int.dvd_trans h2 (Int.dvd_mul_right _ q)
  have m2 : mr_D M F 1 ∣ u2 * mr_hat M F 1 2 := by
    have : mr_Ch M F 1 * mr_D M F 1 ∣ mr_Ch M F 1 * (u2 * mr_hat M F 1 2) := by rw [Int.mul_comm (mr_Ch M F 1) (mr_D M F 1), e1]; exact m1
    exact Int.dvd_of_mul_dvd_mul_left (by omega) this
  obtain ⟨v, hv⟩ := m2
  refine ⟨-v, ?_⟩
  rw [hv]
  have : -v * mr_hat M F 1 1 + mr_D M F 1 * v = 0 := by show -v * mr_D M F 1 + mr_D M F 1 * v = 0; rw [Int.neg_mul, Int.mul_comm v]; omega
  rw [this]
  exact mr_dvd_0 M
theorem mr_du0 {M : Int} (hM : 1 ≤ M) {w : Nat} {F : Nat → mr_V} {L : mr_V → Prop} (h : mr_Fo M w F L) {u1 u2 : Int} (h2 : M ∣ u2 * mr_hat M F 2 2) (h1 : M ∣ u1 * mr_hat M F 1 1 + u2 * mr_hat M F 1 2) : ∃ u0 : Int, M ∣ u0 * mr_hat M F 0 0 + u1 * mr_hat M F 0 1 + u2 * mr_hat M F 0 2 := by
  obtain ⟨d0, c0, e0⟩ := mr_hD hM h (c := 0) (by decide)
  have hL0 := (h.2.2.2.1 0 (by decide)).1
  have z1 : ∀ j, j < 1 → mr_hat M F 1 j = 0 := (h.2.2.2.1 1 (by decide)).2.1
  have zL : L (fun j => mr_Ch M F 0 * mr_hat M F 0 j + -1 * mr_e 0 M j) := h.1.2.2 _ _ (-1) (mr_Lat_smul h.1 (mr_Ch M F 0) hL0) (h.2.1 0 (by decide))
  have ze : mr_Ch M F 0 * mr_hat M F 0 0 + -1 * mr_e 0 M 0 = 0 := by
    rw [mr_e_same, Int.mul_comm]
    have e0' : mr_hat M F 0 0 * mr_Ch M F 0 = M := e0
    omega
  have ez1 : mr_Ch M F 0 * mr_hat M F 0 1 + -1 * mr_e 0 M 1 = mr_Ch M F 0 * mr_hat M F 0 1 := by rw [mr_e_ne _ (by decide)]; simp
  have ez2 : mr_Ch M F 0 * mr_hat M F 0 2 + -1 * mr_e 0 M 2 = mr_Ch M F 0 * mr_hat M F 0 2 := by rw [mr_e_ne _ (by decide)]; simp
  obtain ⟨m, hm⟩ := (h.2.2.2.1 1 (by decide)).2.2.2.1 _ zL (fun j hj => by rw [show j = 0 by omega]; exact ze)
  have hm' : mr_Ch M F 0 * mr_hat M F 0 1 = mr_hat M F 1 1 * m := by rw [← ez1]; exact hm
  have zL2 : L (fun j => (mr_Ch M F 0 * mr_hat M F 0 j + -1 * mr_e 0 M j) + -m * mr_hat M F 1 j) := h.1.2.2 _ _ (-m) zL (h.2.2.2.1 1 (by decide)).1
  obtain ⟨q, hq⟩ := (h.2.2.2.1 2 (by decide)).2.2.2.1 _ zL2 (fun j hj => by
    rcases (show j = 0 ∨ j = 1 by omega) with e | e <;> subst e
    · show (mr_Ch M F 0 * mr_hat M F 0 0 + -1 * mr_e 0 M 0) + -m * mr_hat M F 1 0 = 0
      rw [ze, z1 0 (by decide)]; simp
    · show (mr_Ch M F 0 * mr_hat M F 0 1 + -1 * mr_e 0 M 1) + -m * mr_hat M F 1 1 = 0
      rw [ez1, hm', Int.neg_mul, Int.mul_comm m]; omega)
  have hq' : mr_Ch M F 0 * mr_hat M F 0 2 = mr_hat M F 2 2 * q + m * mr_hat M F 1 2 := by
    have : (mr_Ch M F 0 * mr_hat M F 0 2 + -1 * mr_e 0 M 2) + -m * mr_hat M F 1 2 = mr_hat M F 2 2 * q := hq
    rw [ez2, Int.neg_mul] at this
    omega
  have m1 : M ∣ mr_Ch M F 0 * (u1 * mr_hat M F 0 1 + u2 * mr_hat M F 0 2) := by
    have e : mr_Ch M F 0 * (u1 * mr_hat M F 0 1 + u2 * mr_hat M F 0 2) = (u1 * mr_hat M F 1 1 + u2 * mr_hat M F 1 2) * m + u2 * mr_hat M F 2 2 * q := by
      have a1 : mr_Ch M F 0 * (u1 * mr_hat M F 0 1) = u1 * (mr_Ch M F 0 * mr_hat M F 0 1) := by rw [← Int.mul_assoc, Int.mul_comm (mr_Ch M F 0), Int.mul_assoc]
      have a2 : mr_Ch M F 0 * (u2 * mr_hat M F 0 2) = u2 * (mr_Ch M F 0 * mr_hat M F 0 2) := by rw [← Int.mul_assoc, Int.mul_comm (mr_Ch M F 0), Int.mul_assoc]
      rw [Int.mul_add, a1, a2, hm', hq', Int.mul_add, Int.add_mul, Int.mul_assoc, Int.mul_assoc, Int.mul_assoc, Int.mul_comm m]
      omega
    rw [e]
    exact Int.dvd_add (Int.dvd_trans h1 (Int.dvd_mul_right _ m)) (Int.dvd_trans h2 (Int.dvd_mul_right _ q))
  have m2 : mr_D M F 0 ∣ u1 * mr_hat M F 0 1 + u2 * mr_hat M F 0 2 := by
    have : mr_Ch M F 0 * mr_D M F 0 ∣ mr_Ch M F 0 * (u1 * mr_hat M F 0 1 + u2 * mr_hat M F 0 2) := by rw [Int.mul_comm (mr_Ch M F 0) (mr_D M F 0), e0]; exact m1
    exact Int.dvd_of_mul_dvd_mul_left (by omega) this
  obtain ⟨v, hv⟩ := m2
  refine ⟨-v, ?_⟩
  rw [Int.add_assoc, hv]
  have : -v * mr_hat M F 0 0 + mr_D M F 0 * v = 0 := by show -v * mr_D M F 0 + mr_D M F 0 * v = 0; rw [Int.neg_mul, Int.mul_comm v]; omega
  rw [this]
  exact mr_dvd_0 M
theorem mr_ndv {M d c y : Int} (hd : d * c = M) (hc : 1 ≤ c) (h1 : 0 < y) (h2 : y < d) : ¬ M ∣ c * y := fun z => by
  have p1 : 0 < c * y := Int.mul_pos (by omega) h1
  have p2 : c * (y + 1) ≤ c * d := Int.mul_le_mul_of_nonneg_left (by omega) (by omega)
  rw [Int.mul_add, Int.mul_one, Int.mul_comm c d, hd] at p2
  have := Int.le_of_dvd p1 z
  omega
def mr_pf (u : mr_V) (z : mr_V) : Int := u 0 * z 0 + u 1 * z 1 + u 2 * z 2
theorem mr_pf_lat (M : Int) (u : mr_V) : mr_Lat 3 (fun z => M ∣ mr_pf u z) := by
  refine ⟨fun x y e hx => ?_, ?_, fun x y k hx hy => ?_⟩
  · show M ∣ mr_pf u y
    unfold mr_pf
    rw [← e 0 (by decide), ← e 1 (by decide), ← e 2 (by decide)]
    exact hx
  · show M ∣ u 0 * 0 + u 1 * 0 + u 2 * 0
    simp
  · show M ∣ u 0 * (x 0 + k * y 0) + u 1 * (x 1 + k * y 1) + u 2 * (x 2 + k * y 2)
    have e : u 0 * (x 0 + k * y 0) + u 1 * (x 1 + k * y 1) + u 2 * (x 2 + k * y 2) = mr_pf u x + k * mr_pf u y := by
      unfold mr_pf
      grind
    rw [e]
    exact Int.dvd_add hx (Int.dvd_trans hy (Int.dvd_mul_left k _))
/-- what is not in a lattice is told from it -/
theorem mr_dual {M : Int} (hM : 1 ≤ M) {w : Nat} {F : Nat → mr_V} {L : mr_V → Prop} (h : mr_Fo M w F L) {b : mr_V} (hb : mr_box M b) (hn : ¬ L b) : ∃ u : mr_V, (∀ z, L z → M ∣ mr_pf u z) ∧ ¬ M ∣ mr_pf u b := by
  obtain ⟨y, y1, y2, y3⟩ := mr_red hM h hb
  have fin : ∀ u : mr_V, (∀ c, c < 3 → M ∣ mr_pf u (mr_hat M F c)) → ¬ M ∣ mr_pf u y → ∃ u : mr_V, (∀ z, L z → M ∣ mr_pf u z) ∧ ¬ M ∣ mr_pf u b := fun u hu hy => by
    have al : ∀ z, L z → M ∣ mr_pf u z := fun z hz => mr_H_gen h.1 h.2.2.2.1 (mr_pf_lat M u) hu 3 0 z (by decide) hz (fun j hj => by omega)
    refine ⟨u, al, fun zb => hy ?_⟩
    have := mr_Lat_sub (mr_pf_lat M u) zb (al _ y3)
    exact (mr_pf_lat M u).1 _ _ (fun j _ => by show b j - (b j - y j) = y j; omega) this
  have t1 : ∀ j, j < 1 → mr_hat M F 1 j = 0 := (h.2.2.2.1 1 (by decide)).2.1
  have t2 : ∀ j, j < 2 → mr_hat M F 2 j = 0 := (h.2.2.2.1 2 (by decide)).2.1
  have p1 : ∀ u : mr_V, mr_pf u (mr_hat M F 1) = u 1 * mr_hat M F 1 1 + u 2 * mr_hat M F 1 2 := fun u => by unfold mr_pf; rw [t1 0 (by decide)]; simp
  have p2 : ∀ u : mr_V, mr_pf u (mr_hat M F 2) = u 2 * mr_hat M F 2 2 := fun u => by unfold mr_pf; rw [t2 0 (by decide), t2 1 (by decide)]; simp
  have mk : ∀ u0 u1 u2 : Int, M ∣ u0 * mr_hat M F 0 0 + u1 * mr_hat M F 0 1 + u2 * mr_hat M F 0 2 → M ∣ u1 * mr_hat M F 1 1 + u2 * mr_hat M F 1 2 → M ∣ u2 * mr_hat M F 2 2 → ∀ c, c < 3 → M ∣ mr_pf (mr_l3 u0 u1 u2) (mr_hat M F c) := fun u0 u1 u2 g0 g1 g2 c hc => by
    rcases (show c = 0 ∨ c = 1 ∨ c = 2 by omega) with e | e | e <;> subst e
    · exact g0
    · rw [p1]; exact g1
    · rw [p2]; exact g2
  obtain ⟨d0, c0, e0⟩ := mr_hD hM h (c := 0) (by decide)
  obtain ⟨d1, c1, e1⟩ := mr_hD hM h (c := 1) (by decide)
  obtain ⟨d2, c2, e2⟩ := mr_hD hM h (c := 2) (by decide)
  by_cases q0 : y 0 = 0
  · by_cases q1 : y 1 = 0
    · by_cases q2 : y 2 = 0
      · exact absurd (h.1.1 _ _ (fun j hj => by
          show b j - y j = b j
          rcases (show j = 0 ∨ j = 1 ∨ j = 2 by omega) with e | e | e <;> subst e <;> omega) y3) hn
      · have g2 : M ∣ mr_Ch M F 2 * mr_hat M F 2 2 := by rw [Int.mul_comm]; exact ⟨1, by rw [Int.mul_one]; exact e2⟩
        obtain ⟨u1, g1⟩ := mr_du1 hM h g2
        obtain ⟨u0, g0⟩ := mr_du0 hM h g2 g1
        refine fin _ (mk u0 u1 (mr_Ch M F 2) g0 g1 g2) ?_
        show ¬ M ∣ u0 * y 0 + u1 * y 1 + mr_Ch M F 2 * y 2
        rw [q0, q1, Int.mul_zero, Int.mul_zero, Int.zero_add, Int.zero_add]
        exact mr_ndv e2 c2 (by have := y1 2 (by decide); omega) (y2 2 (by decide))
    · have g2 : M ∣ 0 * mr_hat M F 2 2 := by rw [Int.zero_mul]; exact mr_dvd_0 M
      have g1 : M ∣ mr_Ch M F 1 * mr_hat M F 1 1 + 0 * mr_hat M F 1 2 := by rw [Int.zero_mul, Int.add_zero, Int.mul_comm]; exact ⟨1, by rw [Int.mul_one]; exact e1⟩
      obtain ⟨u0, g0⟩ := mr_du0 hM h g2 g1
      refine fin _ (mk u0 _ 0 g0 g1 g2) ?_
      show ¬ M ∣ u0 * y 0 + mr_Ch M F 1 * y 1 + 0 * y 2
      rw [q0, Int.mul_zero, Int.zero_mul, Int.zero_add, Int.add_zero]
      exact mr_ndv e1 c1 (by have := y1 1 (by decide); omega) (y2 1 (by decide))
  · refine fin _ (mk (mr_Ch M F 0) 0 0 ?_ ?_ ?_) ?_
    · rw [Int.zero_mul, Int.zero_mul, Int.add_zero, Int.add_zero, Int.mul_comm]; exact ⟨1, by rw [Int.mul_one]; exact e0⟩
    · simp
    · simp
    · show ¬ M ∣ mr_Ch M F 0 * y 0 + 0 * y 1 + 0 * y 2
      rw [Int.zero_mul, Int.zero_mul, Int.add_zero, Int.add_zero]
      exact mr_ndv e0 c0 (by have := y1 0 (by decide); omega) (y2 0 (by decide))
section WT
variable {f N : Nat → Int} {M : Int} {w : Nat} {L : Int → mr_V → Prop}
/-- multiples that make the left sides nought -/
def mr_WL (f : Nat → Int) (M : Int) (w n0 : Nat) : mr_V → Prop := fun u => (∀ j, j < w → M ∣ mr_sm n0 (fun i => mr_se f i j * u i)) ∧ ∀ i, n0 ≤ i → i < 3 → M ∣ u i
/-- without a solution there are some that show it -/
theorem mr_hopeless (h : mr_WB f M w L) {n0 : Nat} (hn : f 2 = n0) (hs : ¬ ∃ x, mr_sv f M w x) : ∃ u : mr_V, mr_box M u ∧ (∀ i, n0 ≤ i → i < 3 → u i = 0) ∧ mr_WL f M w n0 u ∧ ¬ M ∣ mr_sm n0 (fun i => u i * mr_se f i 3) := by
  obtain ⟨h0, h1, h2, h3, h4, h5, h6⟩ := h
  have hM : 1 ≤ M := by omega
  have n3 : n0 ≤ 3 := by omega
  have se_in : ∀ i : Nat, i < n0 → ∀ j : Nat, j < 3 → 0 ≤ mr_se f i j ∧ mr_se f i j < M := fun i hi j hj => ((h6 i (by omega) (by omega)).1 j hj).1
  have hFo := mr_Fo_cut (M := M) ⟨hM, h2.2⟩ (n := n0) (a := 0) (w := n0) (ct := w) (by omega) n3 (R := fun c j => mr_se f j c) (F0 := mr_Zz) (fun r hr j hj => se_in j hj r (by omega)) (F := fun c j => if c < n0 ∧ j < n0 then mr_shp M n0 w (fun c j => mr_se f j c) mr_Zz (0 + c) (0 + j) else 0) (fun c j _ _ => rfl)
  have bb : mr_box M (fun j => if j < n0 then mr_se f j 3 else 0) := fun j hj => by
    show 0 ≤ (if j < n0 then mr_se f j 3 else 0) ∧ (if j < n0 then mr_se f j 3 else 0) < M
    by_cases e : j < n0
    · rw [if_pos e]; exact (h6 j (by omega) (by omega)).2
    · rw [if_neg e]; omega
  have nb : ¬ (mr_Lc M n0 w 0 (fun c j => mr_se f j c) (mr_sft 0 (fun j => if j < n0 then mr_se f j 3 else 0)) ∧ ∀ j, n0 ≤ j → j < 3 → M ∣ (fun j => if j < n0 then mr_se f j 3 else 0) j) := fun z => hs (by
    have P : mr_Lat n0 (fun z => ∃ x : mr_V, ∀ j, j < n0 → M ∣ z j - mr_sm w (fun c => mr_se f j c * x c)) := by
      refine ⟨fun a b e ⟨x, hx⟩ => ⟨x, fun j hj => by rw [← e j hj]; exact hx j hj⟩, ⟨fun _ => 0, fun j hj => ?_⟩, fun a b k ⟨x, hx⟩ ⟨y, hy⟩ => ⟨fun c => x c + k * y c, fun j hj => ?_⟩⟩
      · have : mr_sm w (fun c => mr_se f j c * (0 : Int)) = 0 := by rw [mr_sm_cg (h := fun _ => 0) w (fun c _ => Int.mul_zero _)]; exact mr_sm_z w
        show M ∣ 0 - mr_sm w (fun c => mr_se f j c * (0 : Int))
        rw [this]; simp
      · have e := mr_sm_lin (fun c : Nat => mr_se f j c * x c) (fun c : Nat => mr_se f j c * y c) k w
        rw [mr_sm_cg (h := fun c => mr_se f j c * (x c + k * y c)) w (fun c _ => by show mr_se f j c * x c + k * (mr_se f j c * y c) = mr_se f j c * (x c + k * y c); rw [Int.mul_add, ← Int.mul_assoc, ← Int.mul_assoc, Int.mul_comm k])] at e
        show M ∣ a j + k * b j - mr_sm w (fun c => mr_se f j c * (x c + k * y c))
        rw [e, show a j + k * b j - (mr_sm w (fun c => mr_se f j c * x c) + k * mr_sm w (fun c => mr_se f j c * y c)) = (a j - mr_sm w (fun c => mr_se f j c * x c)) + k * (b j - mr_sm w (fun c => mr_se f j c * y c)) by rw [Int.mul_sub]; omega]
        exact Int.dvd_add (hx j hj) (Int.dvd_trans (hy j hj) (Int.dvd_mul_left k _))
    have z1 := z.1
    rw [mr_sft_0] at z1
    obtain ⟨x, hx⟩ := mr_Sp_le P (fun y hy => by
      rcases hy with ⟨r, hr, e⟩ | ⟨j, _, hj, e⟩
      · refine ⟨mr_e r 1, fun j hj => ?_⟩
        rw [mr_sm_unit (fun c : Nat => mr_se f j c) r w, if_pos hr, e]
        exact mr_dvd_same M _
      · refine ⟨fun _ => 0, fun i hi => ?_⟩
        have : mr_sm w (fun c => mr_se f i c * (0 : Int)) = 0 := by rw [mr_sm_cg (h := fun _ => 0) w (fun c _ => Int.mul_zero _)]; exact mr_sm_z w
        rw [this, e, mr_e_at, Int.sub_zero]
        split
        · exact Int.dvd_refl M
        · exact mr_dvd_0 M) z1
    refine ⟨fun c => if c < w then x c else 0, fun i hi => ?_, fun j g1 g2 => ?_⟩
    · have := hx i (by omega)
      have e9 : (if i < n0 then mr_se f i 3 else 0) = mr_se f i 3 := if_pos (by omega)
      have this' : M ∣ (if i < n0 then mr_se f i 3 else 0) - mr_sm w (fun c => mr_se f i c * x c) := this
      rw [e9] at this'
      rw [mr_sm_cg (g := fun c => mr_se f i c * (if c < w then x c else 0)) (h := fun c => mr_se f i c * x c) w (fun c hc => by show mr_se f i c * (if c < w then x c else 0) = _; rw [if_pos hc])]
      exact mr_dvd_sym this'
    · show M ∣ (if j < w then x j else 0)
      rw [if_neg (by omega)]; exact mr_dvd_0 M)
  obtain ⟨u, hu, hub⟩ := mr_dual hM hFo bb nb
  have em : ∀ i, M ∣ u i % M - u i := fun i => mr_dvd_self_emod M (u i)
  -- cut to the equations, modulo M
  have sw : ∀ g : Nat → Int, M ∣ mr_sm n0 (fun i => (if i < n0 then u i % M else 0) * g i) - mr_pf u (fun i => if i < n0 then g i else 0) := fun g => by
    have e1 : mr_pf u (fun i => if i < n0 then g i else 0) = mr_sm n0 (fun i => u i * g i) := by
      have := mr_sm_3 (w := n0) n3 (g := u) (h := fun i => if i < n0 then g i else 0) (fun j g1 g2 => if_neg (by omega))
      unfold mr_pf
      rw [← this]
      exact mr_sm_cg n0 (fun r hr => by show u r * (if r < n0 then g r else 0) = u r * g r; rw [if_pos hr])
    rw [e1]
    have e2 := mr_sm_lin (fun i => (if i < n0 then u i % M else 0) * g i) (fun i => u i * g i) (-1) n0
    have e3 : M ∣ mr_sm n0 (fun r => (if r < n0 then u r % M else 0) * g r + -1 * (u r * g r)) := mr_sm_dvd n0 (fun r hr => by
      show M ∣ (if r < n0 then u r % M else 0) * g r + -1 * (u r * g r)
      rw [if_pos hr, show u r % M * g r + -1 * (u r * g r) = (u r % M - u r) * g r by rw [Int.sub_mul]; omega]
      exact Int.dvd_trans (em r) (Int.dvd_mul_right _ _))
    rw [e2] at e3
    rw [show mr_sm n0 (fun i => (if i < n0 then u i % M else 0) * g i) - mr_sm n0 (fun i => u i * g i) = mr_sm n0 (fun i => (if i < n0 then u i % M else 0) * g i) + -1 * mr_sm n0 (fun i => u i * g i) by omega]
    exact e3
  refine ⟨fun i => if i < n0 then u i % M else 0, fun j hj => ?_, fun i g1 g2 => if_neg (by omega), ⟨fun j hj => ?_, fun i g1 g2 => ?_⟩, fun z => hub ?_⟩
  · show 0 ≤ (if j < n0 then u j % M else 0) ∧ (if j < n0 then u j % M else 0) < M
    by_cases e : j < n0
    · rw [if_pos e]; exact mr_em (by omega) _
    · rw [if_neg e]; omega
  · have c1 := hu (fun i => if i < n0 then mr_se f i j else 0) ⟨by
      rw [mr_sft_0]
      refine (mr_Lc_lat _ _ _ _ _).1 _ _ (fun i hi => ?_) (mr_Sp_gen (Or.inl ⟨j, hj, rfl⟩))
      show mr_se f i j = if i < n0 then mr_se f i j else 0
      rw [if_pos hi], fun i g1 g2 => by show M ∣ (if i < n0 then mr_se f i j else 0); rw [if_neg (by omega)]; exact mr_dvd_0 M⟩
    have c2 := Int.dvd_add (sw (fun i => mr_se f i j)) c1
    rw [Int.sub_add_cancel] at c2
    rw [mr_sm_cg (h := fun i => (if i < n0 then u i % M else 0) * mr_se f i j) n0 (fun i hi => Int.mul_comm _ _)]
    exact c2
  · show M ∣ (if i < n0 then u i % M else 0)
    rw [if_neg (by omega)]; exact mr_dvd_0 M
  · have c2 := Int.dvd_sub z (sw (fun i => mr_se f i 3))
    rw [show mr_sm n0 (fun i => (if i < n0 then u i % M else 0) * mr_se f i 3) - (mr_sm n0 (fun i => (if i < n0 then u i % M else 0) * mr_se f i 3) - mr_pf u (fun i => if i < n0 then mr_se f i 3 else 0)) = mr_pf u (fun i => if i < n0 then mr_se f i 3 else 0) by omega] at c2
    exact c2
/-- what shows it leaves no solution -/
theorem mr_shows_no (hw : w ≤ 3) {n0 : Nat} (hn : f 2 = n0) {u x : mr_V} (hu : mr_WL f M w n0 u) (hb : ¬ M ∣ mr_sm n0 (fun i => u i * mr_se f i 3)) (hx : mr_sv f M w x) : False := by
  refine hb ?_
  -- the double sum
  have dbl : ∀ k : Nat, mr_sm k (fun i => u i * mr_sm w (fun c => mr_se f i c * x c)) = mr_sm w (fun c => mr_sm k (fun i => mr_se f i c * u i) * x c) := fun k => by
    induction k with
    | zero => rw [mr_sm_cg (h := fun _ => 0) w (fun c _ => by show (0 : Int) * x c = 0; exact Int.zero_mul _), mr_sm_z]; rfl
    | succ k ih =>
      show mr_sm k (fun i => u i * mr_sm w (fun c => mr_se f i c * x c)) + u k * mr_sm w (fun c => mr_se f k c * x c) = _
      rw [ih, ← mr_sm_lin]
      refine mr_sm_cg w (fun c _ => ?_)
      show mr_sm k (fun i => mr_se f i c * u i) * x c + u k * (mr_se f k c * x c) = (mr_sm k (fun i => mr_se f i c * u i) + mr_se f k c * u k) * x c
      rw [Int.add_mul, ← Int.mul_assoc, Int.mul_comm (u k)]
  have a1 : M ∣ mr_sm n0 (fun i => u i * mr_sm w (fun c => mr_se f i c * x c)) := by
    rw [dbl]
    exact mr_sm_dvd w (fun c hc => Int.dvd_trans (hu.1 c hc) (Int.dvd_mul_right _ _))
  have a2 : M ∣ mr_sm n0 (fun i => u i * mr_sm w (fun c => mr_se f i c * x c) + -1 * (u i * mr_se f i 3)) := mr_sm_dvd n0 (fun i hi => by
    show M ∣ u i * mr_sm w (fun c => mr_se f i c * x c) + -1 * (u i * mr_se f i 3)
    rw [show u i * mr_sm w (fun c => mr_se f i c * x c) + -1 * (u i * mr_se f i 3) = u i * (mr_sm w (fun c => mr_se f i c * x c) - mr_se f i 3) by rw [Int.mul_sub]; omega]
    exact Int.dvd_trans (hx.1 i (by omega)) (Int.dvd_mul_left _ _))
  rw [mr_sm_lin] at a2
  have a3 := Int.dvd_sub a1 a2
  rw [show mr_sm n0 (fun i => u i * mr_sm w (fun c => mr_se f i c * x c)) - (mr_sm n0 (fun i => u i * mr_sm w (fun c => mr_se f i c * x c)) + -1 * mr_sm n0 (fun i => u i * mr_se f i 3)) = mr_sm n0 (fun i => u i * mr_se f i 3) by omega] at a3
  exact a3
end WT
