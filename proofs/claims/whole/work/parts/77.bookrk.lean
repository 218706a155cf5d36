/-! the book's own reckoning of sizes, ranks, rests -/
theorem mr_br_at (f : Nat → Int) (p : Int) (c j : Nat) : mr_br f p c j = mr_fa f p c j := rfl
section BR
variable {f : Nat → Int} {M : Int} {w : Nat} {p : Int} {L : mr_V → Prop}
theorem mr_ch_e (hM : 1 ≤ M) (h0 : f 0 = M) (h : mr_Fo M w (mr_br f p) L) {c : Nat} (hc : c < 3) : mr_ch f p c = mr_Ch M (mr_br f p) c := by
  have hd := mr_hD hM h hc
  unfold mr_ch
  by_cases e : 0 < mr_fa f p c c
  · rw [if_pos e, h0]
    have e2 : mr_Ch M (mr_br f p) c = M / mr_fa f p c c := by
      show M / mr_hat M (mr_br f p) c c = _
      rw [mr_hat_pos (F := mr_br f p) (c := c) e]
      rfl
    rw [← e2]
    omega
  · rw [if_neg e]
    have e2 : mr_Ch M (mr_br f p) c = M / M := by
      show M / mr_hat M (mr_br f p) c c = _
      rw [mr_hat_neg (F := mr_br f p) (c := c) e, mr_e_same]
    rw [e2, Int.ediv_self (by omega)]
theorem mr_Ch_w (hM : 1 ≤ M) (h : mr_Fo M w (mr_br f p) L) {c : Nat} (hc : c < 3) (hw : w ≤ c) : mr_Ch M (mr_br f p) c = 1 ∧ mr_D M (mr_br f p) c = M := by
  have e : mr_br f p c c = 0 := mr_Fo_zero h hc hc (Or.inl hw)
  have e1 : mr_D M (mr_br f p) c = M := by
    show mr_hat M (mr_br f p) c c = M
    rw [mr_hat_neg (F := mr_br f p) (c := c) (by omega), mr_e_same]
  refine ⟨?_, e1⟩
  show M / mr_D M (mr_br f p) c = 1
  rw [e1, Int.ediv_self (by omega)]
theorem mr_sz_e (hM : 1 ≤ M) (h0 : f 0 = M) (h1 : f 1 = w) (hw : 1 ≤ w ∧ w ≤ 3) (h : mr_Fo M w (mr_br f p) L) : mr_sz f p 0 = mr_Sz M (mr_br f p) ∧ mr_sz f p 1 = mr_Ch M (mr_br f p) 1 * mr_Ch M (mr_br f p) 2 ∧ mr_sz f p 2 = mr_Ch M (mr_br f p) 2 ∧ mr_sz f p 3 = 1 := by
  have c0 : mr_ch f p 0 = mr_Ch M (mr_br f p) 0 := mr_ch_e hM h0 h (c := 0) (by decide)
  have c1 : mr_ch f p 1 = mr_Ch M (mr_br f p) 1 := mr_ch_e hM h0 h (c := 1) (by decide)
  have c2 : mr_ch f p 2 = mr_Ch M (mr_br f p) 2 := mr_ch_e hM h0 h (c := 2) (by decide)
  unfold mr_Sz
  rcases (show w = 1 ∨ w = 2 ∨ w = 3 by omega) with e | e | e
  · subst e
    have k1 := (mr_Ch_w hM h (c := 1) (by decide) (Nat.le_refl 1)).1
    have k2 := (mr_Ch_w hM h (c := 2) (by decide) (by decide)).1
    have h1' : f 1 = 1 := h1
    rw [k1, k2]
    refine ⟨?_, ?_, ?_, ?_⟩ <;> simp [mr_sz, mr_szl, h1', c0]
  · subst e
    have k2 := (mr_Ch_w hM h (c := 2) (by decide) (by decide)).1
    have h1' : f 1 = 2 := h1
    rw [k2]
    refine ⟨?_, ?_, ?_, ?_⟩ <;> simp [mr_sz, mr_szl, h1', c0, c1]
  · subst e
    have h1' : f 1 = 3 := h1
    refine ⟨?_, ?_, ?_, ?_⟩ <;> simp [mr_sz, mr_szl, h1', c0, c1, c2, Int.mul_assoc]
/-- a step of a row through a column -/
def mr_fst2 (f : Nat → Int) (p : Int) (c : Nat) (q : Int) (r : mr_V) : mr_V := if 0 < mr_fa f p c c then mr_af f p c (q - r c / mr_fa f p c c) r else r
theorem mr_fst2_e (hM : 1 ≤ M) (h0 : f 0 = M) (h : mr_Fo M w (mr_br f p) L) {c : Nat} (hc : c < 3) {r : mr_V} (hr : mr_box M r) {q : Int} (hq : 0 ≤ q ∧ q < mr_Ch M (mr_br f p) c) : ∀ j, j < 3 → mr_fst2 f p c q r j = (r j + (q - r c / mr_D M (mr_br f p) c) * mr_hat M (mr_br f p) c j) % M := fun j hj => by
  unfold mr_fst2
  by_cases e : 0 < mr_fa f p c c
  · rw [if_pos e]
    have e1 : mr_hat M (mr_br f p) c = mr_br f p c := mr_hat_pos (F := mr_br f p) (c := c) e
    show mr_af f p c (q - r c / mr_fa f p c c) r j = (r j + (q - r c / mr_hat M (mr_br f p) c c) * mr_hat M (mr_br f p) c j) % M
    rw [e1]
    unfold mr_af mr_rs
    rw [h0, if_pos (show 0 < M by omega)]
    by_cases cj : (c : Int) ≤ j
    · rw [if_pos cj]; rfl
    · have z : mr_br f p c j = 0 := (h.2.2.2.2 c hc).2.1 j (by omega)
      rw [if_neg cj, z, Int.mul_zero, Int.add_zero, Int.emod_eq_of_lt (hr j hj).1 (hr j hj).2]
  · rw [if_neg e]
    have e1 : mr_hat M (mr_br f p) c = mr_e c M := mr_hat_neg (F := mr_br f p) (c := c) e
    have e2 : mr_Ch M (mr_br f p) c = 1 := by
      show M / mr_hat M (mr_br f p) c c = 1
      rw [e1, mr_e_same, Int.ediv_self (by omega)]
    have e3 : r c / mr_D M (mr_br f p) c = 0 := by
      show r c / mr_hat M (mr_br f p) c c = 0
      rw [e1, mr_e_same]
      exact Int.ediv_eq_zero_of_lt (hr c hc).1 (hr c hc).2
    rw [e3, show q = 0 by omega, Int.sub_zero, Int.zero_mul, Int.add_zero, Int.emod_eq_of_lt (hr j hj).1 (hr j hj).2]
theorem mr_fst2_ok (hM : 1 ≤ M) (h0 : f 0 = M) (h : mr_Fo M w (mr_br f p) L) {c : Nat} (hc : c < 3) {r : mr_V} (hr : mr_box M r) {q : Int} (hq : 0 ≤ q ∧ q < mr_Ch M (mr_br f p) c) : mr_box M (mr_fst2 f p c q r) ∧ (∀ j, j < c → mr_fst2 f p c q r j = r j) ∧ L (fun j => mr_fst2 f p c q r j - r j) ∧ mr_fst2 f p c q r c / mr_D M (mr_br f p) c = q ∧ mr_fst2 f p c q r c % mr_D M (mr_br f p) c = r c % mr_D M (mr_br f p) c := by
  have e := mr_fst2_e hM h0 h hc hr hq
  have a := mr_stp1 hM h hc hr _ e
  have b := mr_stp2 hM h hc hr hq e
  exact ⟨a.1, a.2.1, a.2.2, b⟩
theorem mr_lst_e (c : Nat) (r : mr_V) : mr_lst f p c r = mr_fst2 f p c 0 r := by
  unfold mr_lst mr_fst2
  rw [Int.toNat_natCast, Int.zero_sub]
theorem mr_lt_of_q {M : Int} {d v : Int} (hd : 1 ≤ d) (hv : 0 ≤ v) (e : v / d = 0) : v < d := by
  have := Int.emod_add_mul_ediv v d
  have h2 := mr_em (show 0 < d by omega) v
  rw [e, Int.mul_zero] at this
  omega
/-- the rest of a row -/
theorem mr_lsl_ok (hM : 1 ≤ M) (h0 : f 0 = M) (h1 : f 1 = w) (hw : 1 ≤ w ∧ w ≤ 3) (h : mr_Fo M w (mr_br f p) L) {x : mr_V} (hx : mr_box M x) : mr_box M (mr_lsl f p 3 0 x) ∧ (∀ j, j < 3 → mr_lsl f p 3 0 x j < mr_D M (mr_br f p) j) ∧ L (fun j => x j - mr_lsl f p 3 0 x j) := by
  have hC : ∀ c, c < 3 → (0 : Int) ≤ 0 ∧ 0 < mr_Ch M (mr_br f p) c := fun c hc => ⟨Int.le_refl 0, by have := (mr_hD hM h hc).2.1; omega⟩
  have hd : ∀ c, c < 3 → 1 ≤ mr_D M (mr_br f p) c := fun c hc => (mr_hD hM h hc).1
  have big : ∀ {y : mr_V}, mr_box M y → ∀ c, c < 3 → w ≤ c → y c < mr_D M (mr_br f p) c := fun hy c hc hwc => by rw [(mr_Ch_w hM h hc hwc).2]; exact (hy c hc).2
  have s0 := mr_fst2_ok hM h0 h (c := 0) (by decide) hx (hC 0 (by decide))
  have u0 : mr_lsl f p 3 0 x = mr_lsl f p 2 1 (mr_fst2 f p 0 0 x) := by
    show (if (0 : Int) < f 1 then mr_lsl f p 2 (0 + 1) (mr_lst f p 0 x) else x) = _
    rw [if_pos (by omega), show mr_lst f p 0 x = mr_fst2 f p 0 0 x from mr_lst_e 0 x]
    rfl
  rw [u0]
  generalize mr_fst2 f p 0 0 x = y0 at s0
  have l0 := mr_lt_of_q (M := M) (hd 0 (by decide)) (s0.1 0 (by decide)).1 s0.2.2.2.1
  have D0 : L (fun j => x j - y0 j) := h.1.1 _ _ (fun j _ => by show -1 * (y0 j - x j) = x j - y0 j; omega) (mr_Lat_smul h.1 (-1) s0.2.2.1)
  by_cases c1 : 1 < w
  · have s1 := mr_fst2_ok hM h0 h (c := 1) (by decide) s0.1 (hC 1 (by decide))
    have u1 : mr_lsl f p 2 1 y0 = mr_lsl f p 1 2 (mr_fst2 f p 1 0 y0) := by
      show (if (1 : Int) < f 1 then mr_lsl f p 1 (1 + 1) (mr_lst f p 1 y0) else y0) = _
      rw [if_pos (by omega), show mr_lst f p 1 y0 = mr_fst2 f p 1 0 y0 from mr_lst_e 1 y0]
      rfl
    rw [u1]
    generalize mr_fst2 f p 1 0 y0 = y1 at s1
    have l1 := mr_lt_of_q (M := M) (hd 1 (by decide)) (s1.1 1 (by decide)).1 s1.2.2.2.1
    have D1 : L (fun j => x j - y1 j) := h.1.1 _ _ (fun j _ => by show x j - y0 j - (y1 j - y0 j) = x j - y1 j; omega) (mr_Lat_sub h.1 D0 s1.2.2.1)
    by_cases c2 : 2 < w
    · have s2 := mr_fst2_ok hM h0 h (c := 2) (by decide) s1.1 (hC 2 (by decide))
      have u2 : mr_lsl f p 1 2 y1 = mr_fst2 f p 2 0 y1 := by
        show (if (2 : Int) < f 1 then mr_lsl f p 0 (2 + 1) (mr_lst f p 2 y1) else y1) = _
        rw [if_pos (by omega), show mr_lst f p 2 y1 = mr_fst2 f p 2 0 y1 from mr_lst_e 2 y1]
        rfl
      rw [u2]
      generalize mr_fst2 f p 2 0 y1 = y2 at s2
      have l2 := mr_lt_of_q (M := M) (hd 2 (by decide)) (s2.1 2 (by decide)).1 s2.2.2.2.1
      refine ⟨s2.1, fun j hj => ?_, h.1.1 _ _ (fun j _ => by show x j - y1 j - (y2 j - y1 j) = x j - y2 j; omega) (mr_Lat_sub h.1 D1 s2.2.2.1)⟩
      rcases (show j = 0 ∨ j = 1 ∨ j = 2 by omega) with e | e | e <;> subst e
      · rw [s2.2.1 0 (by decide), s1.2.1 0 (by decide)]; exact l0
      · rw [s2.2.1 1 (by decide)]; exact l1
      · exact l2
    · have u2 : mr_lsl f p 1 2 y1 = y1 := if_neg (by omega)
      rw [u2]
      refine ⟨s1.1, fun j hj => ?_, D1⟩
      rcases (show j = 0 ∨ j = 1 ∨ j = 2 by omega) with e | e | e <;> subst e
      · rw [s1.2.1 0 (by decide)]; exact l0
      · exact l1
      · exact big s1.1 2 (by decide) (by omega)
  · have u1 : mr_lsl f p 2 1 y0 = y0 := if_neg (by omega)
    rw [u1]
    refine ⟨s0.1, fun j hj => ?_, D0⟩
    rcases (show j = 0 ∨ j = 1 ∨ j = 2 by omega) with e | e | e <;> subst e
    · exact l0
    · exact big s0.1 1 (by decide) (by omega)
    · exact big s0.1 2 (by decide) (by omega)
theorem mr_mem_e (hM : 1 ≤ M) (h0 : f 0 = M) (h1 : f 1 = w) (hw : 1 ≤ w ∧ w ≤ 3) (h : mr_Fo M w (mr_br f p) L) {x : mr_V} (hx : mr_box M x) : mr_mem0 f p x ↔ L x := by
  obtain ⟨a, b, c⟩ := mr_lsl_ok hM h0 h1 hw h hx
  unfold mr_mem0
  refine ⟨fun z => h.1.1 _ _ (fun j hj => ?_) c, fun z => ?_⟩
  · rcases (show j = 0 ∨ j = 1 ∨ j = 2 by omega) with e | e | e <;> subst e
    · show x 0 - mr_lsl f p 3 0 x 0 = x 0; omega
    · show x 1 - mr_lsl f p 3 0 x 1 = x 1; omega
    · show x 2 - mr_lsl f p 3 0 x 2 = x 2; omega
  · have ly : L (mr_lsl f p 3 0 x) := h.1.1 _ _ (fun j _ => by show x j - (x j - mr_lsl f p 3 0 x j) = _; omega) (mr_Lat_sub h.1 z c)
    have r := mr_H_red h.2.2.2.1 ly (fun j hj => ⟨(a j hj).1, b j hj⟩)
    exact ⟨r 0 (by decide), r 1 (by decide), r 2 (by decide)⟩
theorem mr_cal_e (hM : 1 ≤ M) (h0 : f 0 = M) (h1 : f 1 = w) (hw : 1 ≤ w ∧ w ≤ 3) (h : mr_Fo M w (mr_br f p) L) {x : mr_V} (hx : mr_box M x) : mr_cal f p x 3 0 0 = mr_rho M (mr_br f p) x := by
  obtain ⟨-, z1, z2, z3⟩ := mr_sz_e hM h0 h1 hw h
  have st : ∀ (c : Nat) (s S : Int), c < 3 → (if 0 < mr_fa f p c c then s + x c / mr_fa f p c c * S else s) = s + x c / mr_D M (mr_br f p) c * S := fun c s S hc => by
    by_cases e : 0 < mr_fa f p c c
    · rw [if_pos e]
      show _ = s + x c / mr_hat M (mr_br f p) c c * S
      rw [mr_hat_pos (F := mr_br f p) (c := c) e]
      rfl
    · rw [if_neg e]
      show _ = s + x c / mr_hat M (mr_br f p) c c * S
      rw [mr_hat_neg (F := mr_br f p) (c := c) e, mr_e_same, Int.ediv_eq_zero_of_lt (hx c hc).1 (hx c hc).2, Int.zero_mul, Int.add_zero]
  have zw : ∀ c, c < 3 → w ≤ c → x c / mr_D M (mr_br f p) c = 0 := fun c hc hwc => by
    rw [(mr_Ch_w hM h hc hwc).2]
    exact Int.ediv_eq_zero_of_lt (hx c hc).1 (hx c hc).2
  have a0 := st 0 0 (mr_sz f p 1) (by decide)
  have u0 : mr_cal f p x 3 0 0 = mr_cal f p x 2 1 (0 + x 0 / mr_D M (mr_br f p) 0 * mr_sz f p 1) := by
    rw [← a0]
    exact if_pos (by omega)
  rw [u0]
  unfold mr_rho
  rw [z1]
  by_cases c1 : 1 < w
  · have u1 : ∀ s : Int, mr_cal f p x 2 1 s = mr_cal f p x 1 2 (s + x 1 / mr_D M (mr_br f p) 1 * mr_sz f p 2) := fun s => by
      rw [← st 1 s (mr_sz f p 2) (by decide)]
      exact if_pos (by omega)
    rw [u1, z2]
    by_cases c2 : 2 < w
    · have u2 : ∀ s : Int, mr_cal f p x 1 2 s = s + x 2 / mr_D M (mr_br f p) 2 * mr_sz f p 3 := fun s => by
        rw [← st 2 s (mr_sz f p 3) (by decide)]
        exact if_pos (by omega)
      rw [u2, z3, Int.mul_one, Int.zero_add]
    · have u2 : ∀ s : Int, mr_cal f p x 1 2 s = s := fun s => if_neg (by omega)
      rw [u2, zw 2 (by decide) (by omega), Int.add_zero, Int.zero_add]
  · have u1 : ∀ s : Int, mr_cal f p x 2 1 s = s := fun s => if_neg (by omega)
    rw [u1, zw 2 (by decide) (by omega), zw 1 (by decide) (by omega), Int.zero_mul, Int.add_zero, Int.add_zero, Int.zero_add]
/-- the row of a rank -/
theorem mr_frl_ok (hM : 1 ≤ M) (h0 : f 0 = M) (h1 : f 1 = w) (hw : 1 ≤ w ∧ w ≤ 3) (h : mr_Fo M w (mr_br f p) L) {k : Int} (hk : 0 ≤ k ∧ k < mr_Sz M (mr_br f p)) {z : mr_V} (hz : ∀ j, j < 3 → z j = 0) : mr_box M (mr_frl f p 3 0 k z) ∧ L (mr_frl f p 3 0 k z) ∧ mr_rho M (mr_br f p) (mr_frl f p 3 0 k z) = k := by
  obtain ⟨-, z1, z2, z3⟩ := mr_sz_e hM h0 h1 hw h
  have c1 := (mr_hD hM h (c := 1) (by decide)).2.1
  have c2 := (mr_hD hM h (c := 2) (by decide)).2.1
  have c12 : 0 < mr_Ch M (mr_br f p) 1 * mr_Ch M (mr_br f p) 2 := Int.mul_pos (by omega) (by omega)
  have m1 := mr_em c12 k
  have e1 := Int.emod_add_mul_ediv k (mr_Ch M (mr_br f p) 1 * mr_Ch M (mr_br f p) 2)
  have m2 := mr_em (show 0 < mr_Ch M (mr_br f p) 2 by omega) (k % (mr_Ch M (mr_br f p) 1 * mr_Ch M (mr_br f p) 2))
  have e2 := Int.emod_add_mul_ediv (k % (mr_Ch M (mr_br f p) 1 * mr_Ch M (mr_br f p) 2)) (mr_Ch M (mr_br f p) 2)
  have b0 : mr_box M z := fun j hj => by rw [hz j hj]; exact ⟨Int.le_refl 0, by omega⟩
  have zw : ∀ {y : mr_V}, mr_box M y → ∀ c, c < 3 → w ≤ c → y c / mr_D M (mr_br f p) c = 0 := fun hy c hc hwc => by
    rw [(mr_Ch_w hM h hc hwc).2]
    exact Int.ediv_eq_zero_of_lt (hy c hc).1 (hy c hc).2
  have s0 := mr_fst2_ok hM h0 h (c := 0) (by decide) b0 (q := k / (mr_Ch M (mr_br f p) 1 * mr_Ch M (mr_br f p) 2)) ⟨Int.ediv_nonneg hk.1 (by omega), Int.ediv_lt_of_lt_mul c12 hk.2⟩
  have u0 : mr_frl f p 3 0 k z = mr_frl f p 2 1 (k % (mr_Ch M (mr_br f p) 1 * mr_Ch M (mr_br f p) 2)) (mr_fst2 f p 0 (k / (mr_Ch M (mr_br f p) 1 * mr_Ch M (mr_br f p) 2)) z) := by
    have e : max 1 (mr_sz f p (0 + 1)) = mr_Ch M (mr_br f p) 1 * mr_Ch M (mr_br f p) 2 := by show max 1 (mr_sz f p 1) = _; rw [z1]; omega
    show (if (0 : Int) < f 1 then mr_frl f p 2 (0 + 1) (k % max 1 (mr_sz f p (0 + 1))) (if 0 < mr_fa f p 0 0 then mr_af f p 0 (k / max 1 (mr_sz f p (0 + 1)) - z (0 : Int).toNat / mr_fa f p 0 0) z else z) else z) = _
    rw [if_pos (by omega), e]
    rfl
  rw [u0]
  generalize k / (mr_Ch M (mr_br f p) 1 * mr_Ch M (mr_br f p) 2) = q0 at s0 e1
  generalize mr_fst2 f p 0 q0 z = y0 at s0
  have L0 : L y0 := h.1.1 _ _ (fun j hj => by show y0 j - z j = y0 j; rw [hz j hj]; omega) s0.2.2.1
  generalize k % (mr_Ch M (mr_br f p) 1 * mr_Ch M (mr_br f p) 2) = t1 at m1 e1 m2 e2
  rw [Int.mul_comm] at e1 e2
  by_cases g1 : 1 < w
  · have s1 := mr_fst2_ok hM h0 h (c := 1) (by decide) s0.1 (q := t1 / mr_Ch M (mr_br f p) 2) ⟨Int.ediv_nonneg m1.1 (by omega), Int.ediv_lt_of_lt_mul (by omega) m1.2⟩
    have u1 : mr_frl f p 2 1 t1 y0 = mr_frl f p 1 2 (t1 % mr_Ch M (mr_br f p) 2) (mr_fst2 f p 1 (t1 / mr_Ch M (mr_br f p) 2) y0) := by
      have e : max 1 (mr_sz f p (1 + 1)) = mr_Ch M (mr_br f p) 2 := by show max 1 (mr_sz f p 2) = _; rw [z2]; omega
      show (if (1 : Int) < f 1 then mr_frl f p 1 (1 + 1) (t1 % max 1 (mr_sz f p (1 + 1))) (if 0 < mr_fa f p 1 1 then mr_af f p 1 (t1 / max 1 (mr_sz f p (1 + 1)) - y0 (1 : Int).toNat / mr_fa f p 1 1) y0 else y0) else y0) = _
      rw [if_pos (by omega), e]
      rfl
    rw [u1]
    generalize t1 / mr_Ch M (mr_br f p) 2 = q1 at s1 e2
    generalize mr_fst2 f p 1 q1 y0 = y1 at s1
    have L1 : L y1 := h.1.1 _ _ (fun j hj => by show y0 j + (y1 j - y0 j) = y1 j; omega) (mr_Lat_add h.1 L0 s1.2.2.1)
    generalize t1 % mr_Ch M (mr_br f p) 2 = t2 at m2 e2
    by_cases g2 : 2 < w
    · have s2 := mr_fst2_ok hM h0 h (c := 2) (by decide) s1.1 (q := t2) m2
      have u2 : mr_frl f p 1 2 t2 y1 = mr_fst2 f p 2 t2 y1 := by
        have e : max 1 (mr_sz f p (2 + 1)) = 1 := by show max 1 (mr_sz f p 3) = _; rw [z3]; rfl
        show (if (2 : Int) < f 1 then mr_frl f p 0 (2 + 1) (t2 % max 1 (mr_sz f p (2 + 1))) (if 0 < mr_fa f p 2 2 then mr_af f p 2 (t2 / max 1 (mr_sz f p (2 + 1)) - y1 (2 : Int).toNat / mr_fa f p 2 2) y1 else y1) else y1) = _
        rw [if_pos (by omega), e, Int.ediv_one]
        rfl
      rw [u2]
      generalize mr_fst2 f p 2 t2 y1 = y2 at s2
      have L2 : L y2 := h.1.1 _ _ (fun j hj => by show y1 j + (y2 j - y1 j) = y2 j; omega) (mr_Lat_add h.1 L1 s2.2.2.1)
      refine ⟨s2.1, L2, ?_⟩
      unfold mr_rho
      rw [s2.2.2.2.1, s2.2.1 1 (by decide), s2.2.1 0 (by decide), s1.2.2.2.1, s1.2.1 0 (by decide), s0.2.2.2.1]
      omega
    · have u2 : mr_frl f p 1 2 t2 y1 = y1 := if_neg (by omega)
      rw [u2]
      refine ⟨s1.1, L1, ?_⟩
      have k2 := (mr_Ch_w hM h (c := 2) (by decide) (by omega)).1
      unfold mr_rho
      rw [zw s1.1 2 (by decide) (by omega), s1.2.2.2.1, s1.2.1 0 (by decide), s0.2.2.2.1]
      omega
  · have u1 : mr_frl f p 2 1 t1 y0 = y0 := if_neg (by omega)
    rw [u1]
    refine ⟨s0.1, L0, ?_⟩
    have k2 := (mr_Ch_w hM h (c := 2) (by decide) (by omega)).1
    have k1 := (mr_Ch_w hM h (c := 1) (by decide) (by omega)).1
    have t0 : t1 = 0 := by
      rw [k1, k2] at m1
      omega
    unfold mr_rho
    rw [zw s0.1 2 (by decide) (by omega), zw s0.1 1 (by decide) (by omega), s0.2.2.2.1, Int.zero_mul]
    omega
/-- the first beside -/
theorem mr_bes_e (hM : 1 ≤ M) (h0 : f 0 = M) (h1 : f 1 = w) (hw : 1 ≤ w ∧ w ≤ 3) (h : mr_Fo M w (mr_br f p) L) {x : mr_V} (hx : mr_box M x) {st li : Nat → Int} {n : Nat} (hp : mr_Lp M st li n (mr_S M L)) {v rv : Int} (hrv : rv = mr_ec M x) (hv : 0 ≤ v ∧ v < M * M * M) (hB : (v = rv ∨ ∃ i : Nat, i < n ∧ v = mr_tg M rv (li i)) ∧ (v ≤ rv ∧ ∀ i : Nat, i < n → v ≤ mr_tg M rv (li i))) : v = mr_ec M (mr_lsl f p 3 0 x) := by
  have hM0 : 0 < M := by omega
  obtain ⟨a, b, c⟩ := mr_lsl_ok hM h0 h1 hw h hx
  have hdx := mr_dec_ec_box hM0 hx
  -- v differs from x by a row of L
  have hvL : L (fun j => mr_dec M v j - x j) := by
    rcases hB.1 with e | ⟨i, hi, e⟩
    · refine h.1.1 (fun _ => 0) _ (fun j hj => ?_) h.1.2.1
      show 0 = mr_dec M v j - x j
      rw [e, hrv, hdx j hj]; omega
    · have hl := (hp.2.2.1 i hi).2
      refine mr_Fo_mod h (x := mr_dec M (li i)) (fun j hj => ?_) hl
      have := mr_tg_dec hM0 rv (li i) j hj
      rw [← e] at this
      rw [hrv, hdx j hj] at this
      show M ∣ mr_dec M v j - x j - mr_dec M (li i) j
      rw [show mr_dec M v j - x j - mr_dec M (li i) j = mr_dec M v j - (x j + mr_dec M (li i) j) by omega]
      exact this
  have bv := mr_dec_box hM0 hv.1 hv.2
  have le1 : mr_ec M (mr_lsl f p 3 0 x) ≤ v := by
    have nl := mr_lex_least h (c := 0) (x := mr_dec M v) (y := mr_lsl f p 3 0 x) (fun j _ hj => ⟨(a j hj).1, b j hj⟩) (fun j hj => (bv j hj).1) (h.1.1 _ _ (fun j _ => by show mr_dec M v j - x j + (x j - mr_lsl f p 3 0 x j) = mr_dec M v j - mr_lsl f p 3 0 x j; omega) (mr_Lat_add h.1 hvL c)) (fun j hj => by omega)
    have := mr_ec_le hM0 bv a nl
    rw [mr_ec_dec hM0 hv.1 hv.2] at this
    exact this
  -- the rest is one of those
  have hy : L (fun j => mr_lsl f p 3 0 x j - x j) := h.1.1 _ _ (fun j _ => by show -1 * (x j - mr_lsl f p 3 0 x j) = mr_lsl f p 3 0 x j - x j; omega) (mr_Lat_smul h.1 (-1) c)
  have he := (mr_S_ec hM0 h.1 h.2.1 (fun j => mr_lsl f p 3 0 x j - x j)).mpr hy
  have hb := mr_ec_bd hM0 (fun j => mr_lsl f p 3 0 x j - x j)
  obtain ⟨i, hi, ei⟩ := hp.2.2.2.1 (mr_ec M (fun j => mr_lsl f p 3 0 x j - x j)).toNat (by omega) (by rw [Int.toNat_of_nonneg hb.1]; exact he)
  rw [Int.toNat_of_nonneg hb.1] at ei
  have le2 := hB.2.2 i hi
  have e3 : mr_tg M rv (li i) = mr_ec M (mr_lsl f p 3 0 x) := by
    refine mr_ec_cg (fun j hj => ?_)
    rw [ei, hrv, hdx j hj, mr_dec_ec hM0 _ j hj]
    have := mr_dvd_self_emod M (mr_lsl f p 3 0 x j - x j)
    rw [show x j + (mr_lsl f p 3 0 x j - x j) % M - mr_lsl f p 3 0 x j = (mr_lsl f p 3 0 x j - x j) % M - (mr_lsl f p 3 0 x j - x j) by omega]
    exact this
  omega
end BR
