/-! the book and the Model's state: alike -/
def mr_Cq (f N : Nat → Int) : Prop := N 0 = f 0 ∧ N 1 = f 1 ∧ N 14 = f 2 ∧ (∀ t c : Int, 0 ≤ t → t ≤ 3 → 0 ≤ c → c < 3 → mr_nf N t c = mr_ec (f 0) (mr_br f t c.toNat)) ∧ ∀ i : Int, 0 ≤ i → i < 3 → N (15 + i).toNat = (if i < f 2 then mr_ec (f 0) (fun j => mr_se f i j) else 0) ∧ N (18 + i).toNat = if i < f 2 then mr_se f i 3 else 0
theorem mr_Cq_NW {f N : Nat → Int} {M : Int} {w : Nat} {L : Int → mr_V → Prop} (h : mr_WB f M w L) (hc : mr_Cq f N) : mr_NW N M w L := by
  obtain ⟨h0, h1, h2, h3, h4, h5, h6⟩ := h
  obtain ⟨c0, c1, c2, c3, c4⟩ := hc
  have h9 : 0 < M * M * M := Int.mul_pos (Int.mul_pos (by omega) (by omega)) (by omega)
  refine ⟨by omega, by omega, h2, h3, fun t g1 g2 => mr_FN_of (by omega) (h5 t g1 (by omega)) (fun c k1 k2 => by rw [c3 t c g1 g2 k1 k2, h0]), fun i g1 g2 => ?_⟩
  obtain ⟨d1, d2⟩ := c4 i g1 g2
  rw [d1, d2]
  by_cases e : i < f 2
  · rw [if_pos e, if_pos e, h0]
    exact ⟨mr_ec_bd (by omega) _, (h6 i g1 e).2⟩
  · rw [if_neg e, if_neg e]
    exact ⟨⟨Int.le_refl 0, h9⟩, Int.le_refl 0, by omega⟩
theorem mr_Cq_NG {f N : Nat → Int} {M : Int} {w : Nat} {L : Int → mr_V → Prop} (h : mr_WB f M w L) (hc : mr_Cq f N) : mr_NG N w L := by
  have hw := mr_Cq_NW h hc
  obtain ⟨h0, h1, h2, h3, h4, h5, h6⟩ := h
  obtain ⟨c0, c1, c2, c3, c4⟩ := hc
  refine ⟨by omega, by omega, by omega, fun _ => ?_⟩
  rw [c0, h0]
  exact hw
theorem mr_dt_d {M : Int} {a b : Int} {v : Int} (hv : 0 ≤ v ∧ v < M) : mr_dt M a b = v ↔ M ∣ mr_dec M a 0 * mr_dec M b 0 + mr_dec M a 1 * mr_dec M b 1 + mr_dec M a 2 * mr_dec M b 2 - v := by
  unfold mr_dt
  have ev : v % M = v := Int.emod_eq_of_lt hv.1 hv.2
  refine ⟨fun z => mr_dvd_of_emod (by rw [z, ev]), fun z => ?_⟩
  obtain ⟨k, hk⟩ := z
  have : mr_dec M a 0 * mr_dec M b 0 + mr_dec M a 1 * mr_dec M b 1 + mr_dec M a 2 * mr_dec M b 2 = v + M * k := by omega
  rw [this, Int.add_mul_emod_self_left, ev]
theorem mr_sm_3 {w : Nat} (hw : w ≤ 3) {g h : Nat → Int} (hz : ∀ j, w ≤ j → j < 3 → h j = 0) : mr_sm w (fun j => g j * h j) = g 0 * h 0 + g 1 * h 1 + g 2 * h 2 := by
  rcases (show w = 0 ∨ w = 1 ∨ w = 2 ∨ w = 3 by omega) with e | e | e | e <;> subst e <;> simp only [mr_sm]
  · rw [hz 0 (by decide) (by decide), hz 1 (by decide) (by decide), hz 2 (by decide) (by decide)]; simp
  · rw [hz 1 (by decide) (by decide), hz 2 (by decide) (by decide)]; simp
  · rw [hz 2 (by decide) (by decide)]; simp
  · omega
theorem mr_isrow {N : Nat → Int} {M : Int} {w : Nat} (hM : 1 ≤ M) (h0 : N 0 = M) (h1 : N 1 = w) (hw : 1 ≤ w ∧ w ≤ 3) {r : Int} (hr : 0 ≤ r ∧ r < M * M * M) : r % mr_stp N = 0 ↔ ∀ j, w ≤ j → j < 3 → mr_dec M r j = 0 := by
  have bx := mr_dec_box (by omega) hr.1 hr.2
  have er := mr_ec_dec (by omega) hr.1 hr.2
  rw [mr_ec_box bx] at er
  have b1 := bx 1 (by decide)
  have b2 := bx 2 (by decide)
  unfold mr_stp
  rcases (show w = 1 ∨ w = 2 ∨ w = 3 by omega) with e | e | e <;> subst e
  · rw [if_neg (by omega), if_neg (by omega), h0]
    have e2 : r = (mr_dec M r 1 * M + mr_dec M r 2) + mr_dec M r 0 * (M * M) := by
      rw [← Int.mul_assoc]
      have e3 := er
      rw [Int.add_mul] at e3
      omega
    have p1 : 0 ≤ mr_dec M r 1 * M := Int.mul_nonneg b1.1 (by omega)
    have p2 : (mr_dec M r 1 + 1) * M ≤ M * M := Int.mul_le_mul_of_nonneg_right (by omega) (by omega)
    rw [Int.add_mul, Int.one_mul] at p2
    have e4 : r % (M * M) = mr_dec M r 1 * M + mr_dec M r 2 := by
      conv => lhs; rw [e2]
      rw [Int.add_mul_emod_self_right]
      exact Int.emod_eq_of_lt (by omega) (by omega)
    rw [e4]
    refine ⟨fun z j g1 g2 => ?_, fun z => by rw [z 1 (by decide) (by decide), z 2 (by decide) (by decide)]; simp⟩
    have z2 : mr_dec M r 2 = 0 := by omega
    have z1 : mr_dec M r 1 = 0 := by
      have : mr_dec M r 1 * M = 0 := by omega
      rcases Int.mul_eq_zero.mp this with q | q
      · exact q
      · omega
    rcases (show j = 1 ∨ j = 2 by omega) with q | q <;> subst q <;> assumption
  · rw [if_neg (by omega), if_pos (by omega), h0]
    exact ⟨fun z j g1 g2 => by rw [show j = 2 by omega]; exact z, fun z => z 2 (by decide) (by decide)⟩
  · rw [if_pos (by omega)]
    exact ⟨fun _ j g1 g2 => by omega, fun _ => Int.emod_one r⟩
section CQ
variable {f N : Nat → Int} {M : Int} {w : Nat} {L : Int → mr_V → Prop}
/-- an equation's left side as told -/
theorem mr_Cq_l (h : mr_WB f M w L) (hc : mr_Cq f N) {i : Nat} (hi : i < 3) {j : Nat} (hj : j < 3) : mr_dec M (N (15 + i)) j = if (i : Int) < f 2 then mr_se f i j else 0 := by
  have e : N (15 + i) = if (i : Int) < f 2 then mr_ec (f 0) (fun j => mr_se f i j) else 0 := (hc.2.2.2.2 i (by omega) (by omega)).1
  rw [e, h.1]
  by_cases q : (i : Int) < f 2
  · rw [if_pos q, if_pos q]
    exact mr_dec_ec_box (by have := h.2.2.1; omega) (fun j hj => ((h.2.2.2.2.2.2 i (by omega) q).1 j hj).1) j hj
  · rw [if_neg q, if_neg q, mr_dec_z]
theorem mr_Cq_r (hc : mr_Cq f N) {i : Nat} (hi : i < 3) : N (18 + i) = if (i : Int) < f 2 then mr_se f i 3 else 0 := (hc.2.2.2.2 i (by omega) (by omega)).2
theorem mr_Cq_f (h : mr_WB f M w L) (hc : mr_Cq f N) {t : Int} (ht : 0 ≤ t ∧ t ≤ 3) {i : Nat} (hi : i < 3) {j : Nat} (hj : j < 3) : mr_dec M (mr_nf N t i) j = mr_fa f t i j := by
  rw [hc.2.2.2.1 t i ht.1 ht.2 (by omega) (by omega), Int.toNat_natCast, h.1]
  exact mr_dec_ec_box (by have := h.2.2.1; omega) (mr_Fo_box (h.2.2.2.2.2.1 t ht.1 (by omega)) hi) j hj
/-- what is upright on a module, as the Model says it -/
theorem mr_up_e (h : mr_WB f M w L) (hc : mr_Cq f N) {s : Int} (hs : 0 ≤ s ∧ s ≤ 3) {r : Int} (hr : 0 ≤ r ∧ r < M * M * M) : (r % mr_stp N = 0 ∧ (mr_dt (N 0) (N (2 + 3 * s + 0).toNat) r = 0 ∧ mr_dt (N 0) (N (2 + 3 * s + (0 + 1)).toNat) r = 0 ∧ mr_dt (N 0) (N (2 + 3 * s + (0 + 1 + 1)).toNat) r = 0)) ↔ mr_S M (fun x => (∀ i, i < w → M ∣ mr_sm w (fun c => mr_fa f s i c * x c)) ∧ ∀ j, w ≤ j → j < 3 → M ∣ x j) r := by
  obtain ⟨h0, h1, h2, h3, h4, h5, h6⟩ := id h
  have e0 : N 0 = M := by rw [hc.1]; exact h0
  have bx := mr_dec_box (M := M) (by omega) hr.1 hr.2
  rw [mr_isrow (M := M) (w := w) (by omega) e0 (by rw [hc.2.1]; exact h1) h3 hr, e0]
  have bz : (∀ j, w ≤ j → j < 3 → mr_dec M r j = 0) ↔ ∀ j, w ≤ j → j < 3 → M ∣ mr_dec M r j := ⟨fun z j g1 g2 => by rw [z j g1 g2]; exact mr_dvd_0 M, fun z j g1 g2 => mr_dvd_small (z j g1 g2) (by have := bx j g2; omega) (by have := bx j g2; omega)⟩
  have key : ∀ i : Nat, i < 3 → (mr_dt M (mr_nf N s i) r = 0 ↔ M ∣ mr_fa f s i 0 * mr_dec M r 0 + mr_fa f s i 1 * mr_dec M r 1 + mr_fa f s i 2 * mr_dec M r 2) := fun i hi => by
    rw [mr_dt_d ⟨Int.le_refl 0, by omega⟩, Int.sub_zero, mr_Cq_f h hc hs hi (j := 0) (by decide), mr_Cq_f h hc hs hi (j := 1) (by decide), mr_Cq_f h hc hs hi (j := 2) (by decide)]
    rfl
  have k0 : mr_dt M (N (2 + 3 * s + 0).toNat) r = 0 ↔ _ := key 0 (by decide)
  have k1 : mr_dt M (N (2 + 3 * s + (0 + 1)).toNat) r = 0 ↔ _ := key 1 (by decide)
  have k2 : mr_dt M (N (2 + 3 * s + (0 + 1 + 1)).toNat) r = 0 ↔ _ := key 2 (by decide)
  rw [k0, k1, k2]
  show _ ↔ ((∀ i, i < w → M ∣ mr_sm w (fun c => mr_fa f s i c * mr_dec M r c)) ∧ ∀ j, w ≤ j → j < 3 → M ∣ mr_dec M r j)
  rw [← bz]
  have zz : ∀ i : Nat, i < 3 → w ≤ i → ∀ j : Nat, j < 3 → mr_fa f s i j = 0 := fun i hi hwi j hj => mr_Fo_zero (h5 s hs.1 (by omega)) hi hj (Or.inl hwi)
  refine ⟨fun ⟨a, b0, b1, b2⟩ => ⟨fun i hi => ?_, a⟩, fun ⟨a, b⟩ => ⟨b, ?_⟩⟩
  · rw [mr_sm_3 (g := fun c : Nat => mr_fa f s i c) h3.2 a]
    rcases (show i = 0 ∨ i = 1 ∨ i = 2 by omega) with e | e | e <;> subst e <;> assumption
  · have al : ∀ i : Nat, i < 3 → M ∣ mr_fa f s i 0 * mr_dec M r 0 + mr_fa f s i 1 * mr_dec M r 1 + mr_fa f s i 2 * mr_dec M r 2 := fun i hi => by
      by_cases hw : i < w
      · have := a i hw
        rw [mr_sm_3 (g := fun c : Nat => mr_fa f s i c) h3.2 b] at this
        exact this
      · have z0 := zz i hi (by omega) 0 (by decide)
        have z1 := zz i hi (by omega) 1 (by decide)
        have z2 := zz i hi (by omega) 2 (by decide)
        have z0' : mr_fa f s i 0 = 0 := z0
        have z1' : mr_fa f s i 1 = 0 := z1
        have z2' : mr_fa f s i 2 = 0 := z2
        rw [z0', z1', z2']
        simp
    exact ⟨al 0 (by decide), al 1 (by decide), al 2 (by decide)⟩
theorem mr_kn_e (h : mr_WB f M w L) (hc : mr_Cq f N) {n0 : Nat} (hn : f 2 = n0) {r : Int} (hr : 0 ≤ r ∧ r < M * M * M) : (r % mr_stp N = 0 ∧ (mr_dt (N 0) (N ((15 : Int) + 0).toNat) r = 0 ∧ mr_dt (N 0) (N ((15 : Int) + (0 + 1)).toNat) r = 0 ∧ mr_dt (N 0) (N ((15 : Int) + (0 + 1 + 1)).toNat) r = 0)) ↔ mr_S M (fun x => (∀ i, i < n0 → M ∣ mr_sm w (fun c => mr_se f i c * x c)) ∧ ∀ j, w ≤ j → j < 3 → M ∣ x j) r := by
  obtain ⟨h0, h1, h2, h3, h4, h5, h6⟩ := id h
  have e0 : N 0 = M := by rw [hc.1]; exact h0
  have bx := mr_dec_box (M := M) (by omega) hr.1 hr.2
  rw [mr_isrow (M := M) (w := w) (by omega) e0 (by rw [hc.2.1]; exact h1) h3 hr, e0]
  have bz : (∀ j, w ≤ j → j < 3 → mr_dec M r j = 0) ↔ ∀ j, w ≤ j → j < 3 → M ∣ mr_dec M r j := ⟨fun z j g1 g2 => by rw [z j g1 g2]; exact mr_dvd_0 M, fun z j g1 g2 => mr_dvd_small (z j g1 g2) (by have := bx j g2; omega) (by have := bx j g2; omega)⟩
  have key : ∀ i : Nat, i < 3 → (mr_dt M (N (15 + i)) r = 0 ↔ (i < n0 → M ∣ mr_se f i 0 * mr_dec M r 0 + mr_se f i 1 * mr_dec M r 1 + mr_se f i 2 * mr_dec M r 2)) := fun i hi => by
    rw [mr_dt_d ⟨Int.le_refl 0, by omega⟩, Int.sub_zero, mr_Cq_l h hc hi (j := 0) (by decide), mr_Cq_l h hc hi (j := 1) (by decide), mr_Cq_l h hc hi (j := 2) (by decide)]
    by_cases q : i < n0
    · rw [if_pos (show (i : Int) < f 2 by omega), if_pos (show (i : Int) < f 2 by omega), if_pos (show (i : Int) < f 2 by omega)]
      exact ⟨fun z _ => z, fun z => z q⟩
    · rw [if_neg (show ¬ (i : Int) < f 2 by omega), if_neg (show ¬ (i : Int) < f 2 by omega), if_neg (show ¬ (i : Int) < f 2 by omega)]
      exact ⟨fun _ z => absurd z q, fun _ => by simp⟩
  have k0 : mr_dt M (N ((15 : Int) + 0).toNat) r = 0 ↔ _ := key 0 (by decide)
  have k1 : mr_dt M (N ((15 : Int) + (0 + 1)).toNat) r = 0 ↔ _ := key 1 (by decide)
  have k2 : mr_dt M (N ((15 : Int) + (0 + 1 + 1)).toNat) r = 0 ↔ _ := key 2 (by decide)
  rw [k0, k1, k2]
  show _ ↔ ((∀ i, i < n0 → M ∣ mr_sm w (fun c => mr_se f i c * mr_dec M r c)) ∧ ∀ j, w ≤ j → j < 3 → M ∣ mr_dec M r j)
  rw [← bz]
  refine ⟨fun ⟨a, b0, b1, b2⟩ => ⟨fun i hi => ?_, a⟩, fun ⟨a, b⟩ => ⟨b, ?_⟩⟩
  · rw [mr_sm_3 (g := fun c : Nat => mr_se f i c) h3.2 a]
    rcases (show i = 0 ∨ i = 1 ∨ i = 2 by omega) with e | e | e <;> subst e
    · exact b0 hi
    · exact b1 hi
    · exact b2 hi
  · have al : ∀ i : Nat, i < n0 → M ∣ mr_se f i 0 * mr_dec M r 0 + mr_se f i 1 * mr_dec M r 1 + mr_se f i 2 * mr_dec M r 2 := fun i hi => by
      have := a i hi
      rw [mr_sm_3 (g := fun c : Nat => mr_se f i c) h3.2 b] at this
      exact this
    exact ⟨al 0, al 1, al 2⟩
/-- solutions as vectors -/
def mr_sv (f : Nat → Int) (M : Int) (w : Nat) (x : mr_V) : Prop := (∀ i : Nat, (i : Int) < f 2 → M ∣ mr_sm w (fun c => mr_se f i c * x c) - mr_se f i 3) ∧ ∀ j, w ≤ j → j < 3 → M ∣ x j
theorem mr_sol_e (h : mr_WB f M w L) (hc : mr_Cq f N) {r : Int} (hr : 0 ≤ r ∧ r < M * M * M) : mr_sol N r ↔ mr_sv f M w (mr_dec M r) := by
  obtain ⟨h0, h1, h2, h3, h4, h5, h6⟩ := id h
  have e0 : N 0 = M := by rw [hc.1]; exact h0
  have bx := mr_dec_box (M := M) (by omega) hr.1 hr.2
  unfold mr_sol mr_slv mr_sv
  rw [mr_isrow (M := M) (w := w) (by omega) e0 (by rw [hc.2.1]; exact h1) h3 hr, e0, hc.2.2.1]
  have bz : (∀ j, w ≤ j → j < 3 → mr_dec M r j = 0) ↔ ∀ j, w ≤ j → j < 3 → M ∣ mr_dec M r j := ⟨fun z j g1 g2 => by rw [z j g1 g2]; exact mr_dvd_0 M, fun z j g1 g2 => mr_dvd_small (z j g1 g2) (by have := bx j g2; omega) (by have := bx j g2; omega)⟩
  rw [← bz]
  have key : (∀ j, w ≤ j → j < 3 → mr_dec M r j = 0) → ∀ i : Nat, (i : Int) < f 2 → (mr_dt M (N (15 + i)) r = N (18 + i) ↔ M ∣ mr_sm w (fun c => mr_se f i c * mr_dec M r c) - mr_se f i 3) := fun b i hi => by
    rw [mr_Cq_r hc (i := i) (by omega), if_pos hi, mr_dt_d (h6 i (by omega) hi).2, mr_Cq_l h hc (i := i) (by omega) (j := 0) (by decide), mr_Cq_l h hc (i := i) (by omega) (j := 1) (by decide), mr_Cq_l h hc (i := i) (by omega) (j := 2) (by decide), if_pos hi, if_pos hi, if_pos hi, mr_sm_3 (g := fun c : Nat => mr_se f i c) h3.2 b]
  refine ⟨fun ⟨a, b⟩ => ⟨fun i hi => (key a i hi).mp (b i (by omega) hi), a⟩, fun ⟨a, b⟩ => ⟨b, fun i g1 g2 => ?_⟩⟩
  have := (key b i.toNat (by omega)).mpr (a i.toNat (by omega))
  rw [show (15 + i).toNat = 15 + i.toNat by omega, show (18 + i).toNat = 18 + i.toNat by omega]
  exact this
end CQ
