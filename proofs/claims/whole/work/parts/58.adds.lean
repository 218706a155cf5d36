/-! ROWS that come to a set, as the Model does it. -/
def mr_Li (M : Int) (L : mr_V → Prop) : Prop := mr_Lat 3 L ∧ ∀ j, j < 3 → L (mr_e j M)
theorem mr_Q3_Li {M : Int} {w : Nat} {L : mr_V → Prop} (h : mr_Q3 M w L) : mr_Li M L := ⟨h.1, h.2.1⟩
theorem mr_Fo_Li {M : Int} {w : Nat} {F : Nat → mr_V} {L : mr_V → Prop} (h : mr_Fo M w F L) : mr_Li M L := ⟨h.1, h.2.1⟩
theorem mr_Li_mod {M : Int} {L : mr_V → Prop} (h : mr_Li M L) {x y : mr_V} (hd : ∀ j, j < 3 → M ∣ y j - x j) (hx : L x) : L y := mr_Lat_mod h.1 h.2 hd hx
theorem mr_LA_Li {M : Int} {L : mr_V → Prop} (h : mr_Li M L) (r : mr_V) : mr_Li M (mr_LA L r) := by
  refine ⟨⟨fun x y e ⟨k, hk⟩ => ⟨k, h.1.1 _ _ (fun j hj => by show x j + -k * r j = y j + -k * r j; rw [e j hj]) hk⟩, ⟨0, h.1.1 _ _ (fun j _ => by show (0 : Int) = 0 + -0 * r j; simp) h.1.2.1⟩, fun x y q ⟨k1, h1⟩ ⟨k2, h2⟩ => ⟨k1 + q * k2, h.1.1 _ _ (fun j _ => ?_) (h.1.2.2 _ _ q h1 h2)⟩⟩, fun j hj => ⟨0, h.1.1 (mr_e j M) _ (fun i _ => by show mr_e j M i = mr_e j M i + -0 * r i; simp) (h.2 j hj)⟩⟩
  show x j + -k1 * r j + q * (y j + -k2 * r j) = x j + q * y j + -(k1 + q * k2) * r j
  grind
def mr_L0 (M : Int) : mr_V → Prop := fun x => ∀ j, j < 3 → M ∣ x j
theorem mr_L0_Li (M : Int) : mr_Li M (mr_L0 M) := by
  refine ⟨⟨fun x y e hx j hj => by rw [← e j hj]; exact hx j hj, fun j _ => mr_dvd_0 M, fun x y k hx hy j hj => Int.dvd_add (hx j hj) (Int.dvd_mul_of_dvd_right (hy j hj))⟩, fun j _ i _ => ?_⟩
  by_cases e : i = j
  · rw [e, mr_e_same]; exact Int.dvd_refl M
  · rw [mr_e_ne _ e]; exact mr_dvd_0 M
theorem mr_dec_z (M : Int) (j : Nat) : mr_dec M 0 j = 0 := by
  unfold mr_dec mr_l3
  simp
theorem mr_ec_z (M : Int) : mr_ec M (fun _ => 0) = 0 := by
  unfold mr_ec
  simp
theorem mr_S_L0 {M : Int} (hM : 0 < M) {r : Int} (h0 : 0 ≤ r) (h1 : r < M * M * M) : mr_S M (mr_L0 M) r ↔ r = 0 := by
  constructor
  · intro h
    have hb := mr_dec_box hM h0 h1
    rw [← mr_ec_dec hM h0 h1, mr_ec_cg (x := mr_dec M r) (y := fun _ => 0) (fun j hj => by rw [Int.sub_zero]; exact h j hj)]
    exact mr_ec_z M
  · intro h j _
    rw [h, mr_dec_z]
    exact mr_dvd_0 M
theorem mr_Lp_0 {M : Int} (hM : 1 ≤ M) (h3 : 1 ≤ M * M * M) (ls : Nat → Int) : mr_Lp M (fun r => if r = 0 then 1 else 0) (mr_fs ls 0 0) 1 (mr_S M (mr_L0 M)) := by
  refine ⟨fun r => ?_, fun r hr => ?_, fun k hk => ?_, fun r hr hs => ?_, fun i k hi hk _ => by omega⟩
  · by_cases e : r = 0
    · exact Or.inr (if_pos e)
    · exact Or.inl (if_neg e)
  · rw [mr_S_L0 (by omega) (by omega) hr]
    show (if r = 0 then (1 : Int) else 0) = 1 ↔ (r : Int) = 0
    by_cases e : r = 0
    · rw [if_pos e]; exact ⟨fun _ => by omega, fun _ => rfl⟩
    · rw [if_neg e]; exact ⟨fun z => absurd z (by decide), fun z => absurd z (by omega)⟩
  · have e : k = 0 := by omega
    subst e
    rw [mr_fs_same]
    exact ⟨⟨by decide, by omega⟩, (mr_S_L0 (by omega) (by decide) (by omega)).mpr rfl⟩
  · exact ⟨0, by decide, by rw [mr_fs_same]; exact ((mr_S_L0 (by omega) (by omega) hr).mp hs).symm⟩
theorem mr_tg_dec {M : Int} (hM : 0 < M) (a b : Int) : ∀ j, j < 3 → M ∣ mr_dec M (mr_tg M a b) j - (mr_dec M a j + mr_dec M b j) := fun j hj => by
  unfold mr_tg
  rw [mr_dec_ec hM _ j hj]
  exact mr_dvd_self_emod _ _
theorem mr_tg_bd {M : Int} (hM : 0 < M) (a b : Int) : 0 ≤ mr_tg M a b ∧ mr_tg M a b < M * M * M := mr_ec_bd hM _
theorem mr_of_dec {M : Int} (hM : 0 < M) (a u : Int) : ∀ j, j < 3 → M ∣ mr_dec M (mr_of M a u) j - mr_dec M a j * u := fun j hj => by
  unfold mr_of
  rw [mr_dec_ec hM _ j hj]
  exact mr_dvd_self_emod _ _
theorem mr_of_bd {M : Int} (hM : 0 < M) (a u : Int) : 0 ≤ mr_of M a u ∧ mr_of M a u < M * M * M := mr_ec_bd hM _
/-- the rows of the first m of the sets beside -/
def mr_Am (M : Int) (L : mr_V → Prop) (v : mr_V) (m : Nat) (r : Int) : Prop := ∃ i : Nat, i < m ∧ L (fun j => mr_dec M r j + -(i : Int) * v j)
abbrev mr_Bm (M : Int) (v : mr_V) (m : Nat) : Int := mr_ec M (fun j => (m : Int) * v j)
def mr_Ai (M : Int) (L : mr_V → Prop) (v : mr_V) (m : Nat) (l0 : Nat → Int) (k : Nat) (r : Int) : Prop := mr_Am M L v m r ∨ ∃ i : Nat, i < k ∧ r = mr_tg M (l0 i) (mr_Bm M v m)
theorem mr_Am_1 {M : Int} {L : mr_V → Prop} (h : mr_Li M L) (v : mr_V) (r : Int) : mr_Am M L v 1 r ↔ mr_S M L r := by
  constructor
  · rintro ⟨i, hi, hl⟩
    have e : i = 0 := by omega
    subst e
    exact h.1.1 _ _ (fun j _ => by show mr_dec M r j + -((0 : Nat) : Int) * v j = mr_dec M r j; simp) hl
  · intro hl
    exact ⟨0, by decide, h.1.1 _ _ (fun j _ => by show mr_dec M r j = mr_dec M r j + -((0 : Nat) : Int) * v j; simp) hl⟩
theorem mr_Bm_dec {M : Int} (hM : 0 < M) (v : mr_V) (m : Nat) : ∀ j, j < 3 → M ∣ mr_dec M (mr_Bm M v m) j - (m : Int) * v j := fun j hj => by
  rw [mr_dec_ec hM _ j hj]
  exact mr_dvd_self_emod _ _
theorem mr_Bm_next {M : Int} (hM : 0 < M) (v0 : Int) (m : Nat) : mr_tg M (mr_Bm M (mr_dec M v0) m) v0 = mr_Bm M (mr_dec M v0) (m + 1) := by
  refine mr_ec_cg (fun j hj => ?_)
  have := mr_Bm_dec hM (mr_dec M v0) m j hj
  rw [show mr_dec M (mr_Bm M (mr_dec M v0) m) j + mr_dec M v0 j - ((m + 1 : Nat) : Int) * mr_dec M v0 j = mr_dec M (mr_Bm M (mr_dec M v0) m) j - (m : Int) * mr_dec M v0 j by rw [Int.natCast_add, Int.add_mul]; omega]
  exact this
theorem mr_Bm_1 {M : Int} (hM : 0 < M) {v0 : Int} (h0 : 0 ≤ v0) (h1 : v0 < M * M * M) : mr_Bm M (mr_dec M v0) 1 = v0 := by
  refine Eq.trans (mr_ec_cg (fun j hj => ?_)) (mr_ec_dec hM h0 h1)
  show M ∣ ((1 : Nat) : Int) * mr_dec M v0 j - mr_dec M v0 j
  rw [show ((1 : Nat) : Int) * mr_dec M v0 j - mr_dec M v0 j = 0 by omega]
  exact mr_dvd_0 M
theorem mr_Am_not {M : Int} (hM : 0 < M) {L : mr_V → Prop} (h : mr_Li M L) {v : mr_V} {m : Nat} (hb : ¬ mr_Am M L v m (mr_Bm M v m)) {a : Int} (ha : L (mr_dec M a)) : ¬ mr_Am M L v m (mr_tg M a (mr_Bm M v m)) := by
  rintro ⟨i, hi, hl⟩
  refine hb ⟨i, hi, mr_Li_mod h (fun j hj => ?_) (h.1.2.2 _ _ (-1) hl ha)⟩
  have := Int.dvd_neg.mpr (mr_tg_dec hM a (mr_Bm M v m) j hj)
  show M ∣ (mr_dec M (mr_Bm M v m) j + -(i : Int) * v j) - (mr_dec M (mr_tg M a (mr_Bm M v m)) j + -(i : Int) * v j + -1 * mr_dec M a j)
  rw [show (mr_dec M (mr_Bm M v m) j + -(i : Int) * v j) - (mr_dec M (mr_tg M a (mr_Bm M v m)) j + -(i : Int) * v j + -1 * mr_dec M a j) = -(mr_dec M (mr_tg M a (mr_Bm M v m)) j - (mr_dec M a j + mr_dec M (mr_Bm M v m) j)) by omega]
  exact this
theorem mr_tg_inj {M : Int} (hM : 0 < M) {a b c : Int} (ha : 0 ≤ a ∧ a < M * M * M) (hb : 0 ≤ b ∧ b < M * M * M) (h : mr_tg M a c = mr_tg M b c) : a = b := by
  have h1 := mr_ec_inj hM h
  rw [← mr_ec_dec hM ha.1 ha.2, ← mr_ec_dec hM hb.1 hb.2]
  refine mr_ec_cg (fun j hj => ?_)
  have := h1 j hj
  rw [show mr_dec M a j + mr_dec M c j - (mr_dec M b j + mr_dec M c j) = mr_dec M a j - mr_dec M b j by omega] at this
  exact this
/-- one row more of the inner loop -/
theorem mr_Ai_step {M : Int} (hM : 0 < M) {L : mr_V → Prop} (h : mr_Li M L) {v : mr_V} {m : Nat} (hb : ¬ mr_Am M L v m (mr_Bm M v m)) {l0 st li : Nat → Int} {n0 n k : Nat} (h0 : ∀ i, i < n0 → (0 ≤ l0 i ∧ l0 i < M * M * M) ∧ mr_S M L (l0 i)) (hinj : ∀ i j, i < n0 → j < n0 → l0 i = l0 j → i = j) (hk : k < n0) (hp : mr_Lp M st li n (mr_Ai M L v m l0 k)) : mr_Lp M (mr_fs st (mr_tg M (l0 k) (mr_Bm M v m)).toNat 1) (mr_fs li n (mr_tg M (l0 k) (mr_Bm M v m))) (n + 1) (mr_Ai M L v m l0 (k + 1)) := by
  have hn : ¬ mr_Ai M L v m l0 k (mr_tg M (l0 k) (mr_Bm M v m)) := by
    rintro (z | ⟨i, hi, z⟩)
    · exact mr_Am_not hM h hb (h0 k hk).2 z
    · have := hinj k i hk (by omega) (mr_tg_inj hM (h0 k hk).1 (h0 i (by omega)).1 z)
      omega
  refine mr_Lp_cg (mr_Lp_add hp (mr_tg_bd hM _ _) hn) (fun r _ _ => ⟨?_, ?_⟩)
  · rintro ((z | ⟨i, hi, z⟩) | z)
    · exact Or.inl z
    · exact Or.inr ⟨i, by omega, z⟩
    · exact Or.inr ⟨k, by omega, z⟩
  · rintro (z | ⟨i, hi, z⟩)
    · exact Or.inl (Or.inl z)
    · by_cases e : i = k
      · subst e; exact Or.inr z
      · exact Or.inl (Or.inr ⟨i, by omega, z⟩)
/-- the inner loop is through -/
theorem mr_Ai_end {M : Int} (hM : 0 < M) {L : mr_V → Prop} (h : mr_Li M L) {v : mr_V} {m : Nat} {l0 : Nat → Int} {n0 : Nat} (h0 : ∀ i, i < n0 → (0 ≤ l0 i ∧ l0 i < M * M * M) ∧ mr_S M L (l0 i)) (hall : ∀ r : Nat, (r : Int) < M * M * M → mr_S M L r → ∃ k, k < n0 ∧ l0 k = r) {r : Int} (hr : 0 ≤ r) (hr1 : r < M * M * M) : mr_Ai M L v m l0 n0 r ↔ mr_Am M L v (m + 1) r := by
  constructor
  · rintro (⟨i, hi, z⟩ | ⟨i, hi, z⟩)
    · exact ⟨i, by omega, z⟩
    · refine ⟨m, by omega, mr_Li_mod h (fun j hj => ?_) (h0 i hi).2⟩
      have a1 := mr_tg_dec hM (l0 i) (mr_Bm M v m) j hj
      have a2 := mr_Bm_dec hM v m j hj
      have a3 := Int.dvd_add a1 a2
      rw [← z] at a3
      show M ∣ mr_dec M r j + -(m : Int) * v j - mr_dec M (l0 i) j
      rw [Int.neg_mul]
      rw [show mr_dec M r j - (mr_dec M (l0 i) j + mr_dec M (mr_Bm M v m) j) + (mr_dec M (mr_Bm M v m) j - (m : Int) * v j) = mr_dec M r j + -((m : Int) * v j) - mr_dec M (l0 i) j by omega] at a3
      exact a3
  · rintro ⟨i, hi, z⟩
    by_cases e : i = m
    · subst e
      have hb := mr_ec_bd hM (fun j => mr_dec M r j + -(i : Int) * v j)
      obtain ⟨k, hk, ek⟩ := hall (mr_ec M (fun j => mr_dec M r j + -(i : Int) * v j)).toNat (by omega) (by
        rw [Int.toNat_of_nonneg hb.1]
        exact (mr_S_ec hM h.1 h.2 _).mpr z)
      rw [Int.toNat_of_nonneg hb.1] at ek
      refine Or.inr ⟨k, hk, ?_⟩
      rw [ek]
      refine Eq.trans (mr_ec_dec hM hr hr1).symm (mr_ec_cg (fun j hj => ?_))
      have a1 := mr_dec_ec hM (fun j => mr_dec M r j + -(i : Int) * v j) j hj
      have a2 := mr_Bm_dec hM v i j hj
      have a3 := mr_dvd_self_emod M (mr_dec M r j + -(i : Int) * v j)
      rw [a1]
      have a4 := Int.dvd_neg.mpr (Int.dvd_add a3 a2)
      rw [Int.neg_mul] at a4 ⊢
      rw [show -((mr_dec M r j + -((i : Int) * v j)) % M - (mr_dec M r j + -((i : Int) * v j)) + (mr_dec M (mr_Bm M v i) j - (i : Int) * v j)) = mr_dec M r j - ((mr_dec M r j + -((i : Int) * v j)) % M + mr_dec M (mr_Bm M v i) j) by omega] at a4
      exact a4
    · exact Or.inl ⟨i, by omega, z⟩
/-- the outer loop is through -/
theorem mr_Am_end {M : Int} (hM : 0 < M) {L : mr_V → Prop} (h : mr_Li M L) {v : mr_V} {m : Nat} (hb : mr_Am M L v m (mr_Bm M v m)) (r : Int) : mr_Am M L v m r ↔ mr_S M (mr_LA L v) r := by
  constructor
  · rintro ⟨i, hi, z⟩
    exact ⟨(i : Int), z⟩
  · rintro ⟨k, z⟩
    obtain ⟨i, hi, y⟩ := hb
    have hd : L (fun j => ((m : Int) - (i : Int)) * v j) := by
      refine mr_Li_mod h (fun j hj => ?_) y
      have := Int.dvd_neg.mpr (mr_Bm_dec hM v m j hj)
      rw [show -(mr_dec M (mr_Bm M v m) j - (m : Int) * v j) = ((m : Int) - (i : Int)) * v j - (mr_dec M (mr_Bm M v m) j + -(i : Int) * v j) by rw [Int.sub_mul, Int.neg_mul]; omega] at this
      exact this
    have hp : (0 : Int) < (m : Int) - (i : Int) := by omega
    have e1 := Int.emod_add_mul_ediv k ((m : Int) - (i : Int))
    have e2 := Int.emod_nonneg k (show (m : Int) - (i : Int) ≠ 0 by omega)
    have e3 := Int.emod_lt_of_pos k hp
    refine ⟨(k % ((m : Int) - (i : Int))).toNat, by omega, h.1.1 _ _ (fun j _ => ?_) (h.1.2.2 _ _ (k / ((m : Int) - (i : Int))) z hd)⟩
    show mr_dec M r j + -k * v j + k / ((m : Int) - (i : Int)) * (((m : Int) - (i : Int)) * v j) = mr_dec M r j + -((k % ((m : Int) - (i : Int))).toNat : Int) * v j
    rw [Int.toNat_of_nonneg e2]
    have e4 : k % ((m : Int) - (i : Int)) = k - ((m : Int) - (i : Int)) * (k / ((m : Int) - (i : Int))) := by omega
    rw [e4]
    grind
/-- three rows of a form make the lattice -/
theorem mr_LA_cg {n : Nat} {L L' : mr_V → Prop} {r r' : mr_V} (h : ∀ x, L x ↔ L' x) (hL : mr_Lat n L) (hr : ∀ j, j < n → r j = r' j) (x : mr_V) : mr_LA L r x ↔ mr_LA L' r' x := by
  constructor
  · rintro ⟨k, hk⟩
    exact ⟨k, (h _).mp (hL.1 _ _ (fun j hj => by show x j + -k * r j = x j + -k * r' j; rw [hr j hj]) hk)⟩
  · rintro ⟨k, hk⟩
    exact ⟨k, hL.1 _ _ (fun j hj => by show x j + -k * r' j = x j + -k * r j; rw [hr j hj]) ((h _).mpr hk)⟩
theorem mr_Fo_LA {M : Int} {w : Nat} {F : Nat → mr_V} {L : mr_V → Prop} (h : mr_Fo M w F L) (x : mr_V) : mr_LA (mr_LA (mr_LA (mr_L0 M) (F 0)) (F 1)) (F 2) x ↔ L x := by
  have l0 := mr_L0_Li M
  have l1 := mr_LA_Li l0 (F 0)
  have l2 := mr_LA_Li l1 (F 1)
  have l3 := mr_LA_Li l2 (F 2)
  constructor
  · rintro ⟨a, b, c, hc⟩
    have z : L (fun j => x j + -a * F 2 j + -b * F 1 j + -c * F 0 j) := mr_Fo_mod h (x := fun _ => 0) (fun j hj => by rw [Int.sub_zero]; exact hc j hj) h.1.2.1
    have z1 := h.1.2.2 _ _ c z (mr_Fo_in h (c := 0) (by decide))
    have z2 := h.1.2.2 _ _ b z1 (mr_Fo_in h (c := 1) (by decide))
    have z3 := h.1.2.2 _ _ a z2 (mr_Fo_in h (c := 2) (by decide))
    exact h.1.1 _ _ (fun j _ => by show x j + -a * F 2 j + -b * F 1 j + -c * F 0 j + c * F 0 j + b * F 1 j + a * F 2 j = x j; rw [Int.neg_mul, Int.neg_mul, Int.neg_mul]; omega) z3
  · intro hx
    refine mr_Fo_gen h l3.1 (fun c hc => ?_) l3.2 hx
    rcases (show c = 0 ∨ c = 1 ∨ c = 2 by omega) with rfl | rfl | rfl
    · exact mr_LA_in l2.1 _ (mr_LA_in l1.1 _ (mr_LA_self l0.1 _))
    · exact mr_LA_in l2.1 _ (mr_LA_self l1.1 _)
    · exact mr_LA_self l2.1 _
