/-! FORMS in three columns; cuts. -/
def mr_Fo (M : Int) (w : Nat) (F : Nat → mr_V) (L : mr_V → Prop) : Prop := mr_Lat 3 L ∧ (∀ j, j < 3 → L (mr_e j M)) ∧ (∀ x, L x → ∀ j, w ≤ j → j < 3 → M ∣ x j) ∧ mr_H 3 L (mr_hat M F) ∧ ∀ c, c < 3 → mr_B1 M 3 c (F c)
theorem mr_Lat_up {n k : Nat} {P : mr_V → Prop} (h : mr_Lat n P) (hk : n ≤ k) : mr_Lat k P := ⟨fun x y e hx => h.1 x y (fun j hj => e j (by omega)) hx, h.2.1, h.2.2⟩
theorem mr_Lat_congr {n : Nat} {P Q : mr_V → Prop} (h : ∀ x, P x ↔ Q x) (hP : mr_Lat n P) : mr_Lat n Q := ⟨fun x y e hx => (h y).mp (hP.1 x y e ((h x).mpr hx)), (h _).mp hP.2.1, fun x y k hx hy => (h _).mp (hP.2.2 x y k ((h x).mpr hx) ((h y).mpr hy))⟩
theorem mr_H_congr {n : Nat} {P Q : mr_V → Prop} {F : Nat → mr_V} (h : ∀ x, P x ↔ Q x) (hP : mr_H n P F) : mr_H n Q F := fun c hc => by
  obtain ⟨a1, a2, a3, a4, a5⟩ := hP c hc
  exact ⟨(h _).mp a1, a2, a3, fun x hx hz => a4 x ((h x).mpr hx) hz, a5⟩
theorem mr_Fo_congr {M : Int} {w : Nat} {F : Nat → mr_V} {L L' : mr_V → Prop} (h : ∀ x, L x ↔ L' x) (hF : mr_Fo M w F L) : mr_Fo M w F L' := ⟨mr_Lat_congr h hF.1, fun j hj => (h _).mp (hF.2.1 j hj), fun x hx => hF.2.2.1 x ((h x).mpr hx), mr_H_congr h hF.2.2.2.1, hF.2.2.2.2⟩
/-- a lattice is made by its form -/
theorem mr_H_gen {n : Nat} {L P : mr_V → Prop} {F : Nat → mr_V} (hL : mr_Lat n L) (hH : mr_H n L F) (hP : mr_Lat n P) (hF : ∀ c, c < n → P (F c)) : ∀ (k c : Nat) (x : mr_V), c + k = n → L x → (∀ j, j < c → x j = 0) → P x
  | 0, c, x, hk, hx, hz => hP.1 _ _ (fun j hj => (hz j (by omega)).symm) hP.2.1
  | k + 1, c, x, hk, hx, hz => by
    have hc : c < n := by omega
    obtain ⟨a1, a2, a3, a4, a5⟩ := hH c hc
    obtain ⟨q, hq⟩ := a4 x hx hz
    have h1 := mr_H_gen hL hH hP hF k (c + 1) (fun j => x j + -q * F c j) (by omega) (hL.2.2 x _ _ hx a1) (fun j hj => by
      by_cases e : j = c
      · subst e
        show x j + -q * F j j = 0
        rw [hq]
        grind
      · show x j + -q * F c j = 0
        rw [hz j (by omega), a2 j (by omega)]
        simp)
    exact hP.1 _ _ (fun j _ => by show x j + -q * F c j + q * F c j = x j; rw [Int.neg_mul]; omega) (hP.2.2 _ _ q h1 (hF c hc))
theorem mr_Fo_in {M : Int} {w : Nat} {F : Nat → mr_V} {L : mr_V → Prop} (h : mr_Fo M w F L) {c : Nat} (hc : c < 3) : L (F c) := by
  obtain ⟨h1, h2, h3, h4, h5⟩ := h
  by_cases hp : 0 < F c c
  · have := (h4 c hc).1
    rw [mr_hat_pos hp] at this
    exact this
  · exact mr_H_zero h1 ((h5 c hc).2.2 (by have := ((h5 c hc).1 c hc).1; omega))
theorem mr_Fo_gen {M : Int} {w : Nat} {F : Nat → mr_V} {L P : mr_V → Prop} (h : mr_Fo M w F L) (hP : mr_Lat 3 P) (hF : ∀ c, c < 3 → P (F c)) (he : ∀ j, j < 3 → P (mr_e j M)) {x : mr_V} (hx : L x) : P x := by
  refine mr_H_gen h.1 h.2.2.2.1 hP (fun c hc => ?_) 3 0 x rfl hx (fun j hj => by omega)
  unfold mr_hat
  split
  · exact hF c hc
  · exact he c hc
theorem mr_Fo_mod {M : Int} {w : Nat} {F : Nat → mr_V} {L : mr_V → Prop} (h : mr_Fo M w F L) {x y : mr_V} (hd : ∀ j, j < 3 → M ∣ y j - x j) (hx : L x) : L y := mr_Lat_mod h.1 h.2.1 hd hx
theorem mr_Fo_uniq {M : Int} (hM : 1 ≤ M) {w : Nat} {F F' : Nat → mr_V} {L : mr_V → Prop} (h : mr_Fo M w F L) (h' : mr_Fo M w F' L) : ∀ c j : Nat, c < 3 → j < 3 → F c j = F' c j := by
  intro c j hc hj
  have u := mr_H_uniq h.1 h.2.2.2.1 h'.2.2.2.1
  have key : ∀ {F : Nat → mr_V}, mr_Fo M w F L → (mr_hat M F c c = M → F c j = 0) ∧ (mr_hat M F c c ≠ M → F c j = mr_hat M F c j) := fun {F} hF => by
    have hB := hF.2.2.2.2 c hc
    by_cases hp : 0 < F c c
    · rw [mr_hat_pos hp]
      refine ⟨fun z => ?_, fun _ => rfl⟩
      have := (hB.1 c hc).2
      omega
    · rw [mr_hat_neg hp, mr_e_same]
      exact ⟨fun _ => hB.2.2 (by have := (hB.1 c hc).1; omega) j hj, fun z => absurd rfl z⟩
  obtain ⟨k1, k2⟩ := key h
  obtain ⟨k3, k4⟩ := key h'
  have e1 := u c c hc hc
  have e2 := u c j hc hj
  by_cases e : mr_hat M F c c = M
  · rw [k1 e, k3 (by rw [← e1]; exact e)]
  · rw [k2 e, k4 (by rw [← e1]; exact e), e2]
/-- behind a cut -/
def mr_sft (a : Nat) (x : mr_V) : mr_V := fun j => if j < a then 0 else x (j - a)
theorem mr_sft_lo {a j : Nat} (x : mr_V) (h : j < a) : mr_sft a x j = 0 := if_pos h
theorem mr_sft_hi (a j : Nat) (x : mr_V) : mr_sft a x (a + j) = x j := by
  unfold mr_sft
  rw [if_neg (by omega), Nat.add_sub_cancel_left]
theorem mr_sft_lin (a : Nat) (x y : mr_V) (k : Int) : mr_sft a (fun j => x j + k * y j) = fun j => mr_sft a x j + k * mr_sft a y j := by
  funext j
  unfold mr_sft
  split
  · simp
  · rfl
theorem mr_Lat_sft {n a w : Nat} {L : mr_V → Prop} (hL : mr_Lat n L) (hn : n = a + w) : mr_Lat w (fun x => L (mr_sft a x)) := by
  refine ⟨fun x y h hx => hL.1 _ _ (fun j hj => ?_) hx, hL.1 _ _ (fun j _ => ?_) hL.2.1, fun x y k hx hy => by show L (mr_sft a (fun j => x j + k * y j)); rw [mr_sft_lin]; exact hL.2.2 _ _ k hx hy⟩
  · unfold mr_sft
    split
    · rfl
    · exact h _ (by omega)
  · unfold mr_sft
    split <;> rfl
/-- the form of what stands behind a cut, in three columns -/
theorem mr_Fo_cut {M : Int} (hM : 1 ≤ M ∧ M ≤ 30) {n a w ct : Nat} (hn : n = a + w) (hw : w ≤ 3) {R F0 : Nat → mr_V} (hR : ∀ r, r < ct → ∀ j, j < n → 0 ≤ R r j ∧ R r j < M) {F : Nat → mr_V} (hF : ∀ c j, c < 3 → j < 3 → F c j = if c < w ∧ j < w then mr_shp M n ct R F0 (a + c) (a + j) else 0) : mr_Fo M w F (fun x => mr_Lc M n ct 0 R (mr_sft a x) ∧ ∀ j, w ≤ j → j < 3 → M ∣ x j) := by
  obtain ⟨hH, hB⟩ := mr_shp_H (F0 := F0) hM hR
  generalize mr_shp M n ct R F0 = S at hH hB hF
  have hl := mr_Lc_lat M n ct 0 R
  have hls := mr_Lat_sft hl hn
  have hem : ∀ j, j < n → mr_Lc M n ct 0 R (mr_e j M) := fun j hj => mr_Sp_gen (Or.inr ⟨j, Nat.zero_le j, hj, rfl⟩)
  have hlo : ∀ c j, c < w → j < w → F c j = S (a + c) (a + j) := fun c j h1 h2 => by rw [hF c j (by omega) (by omega), if_pos ⟨h1, h2⟩]
  have hhi : ∀ c j, c < 3 → j < 3 → (w ≤ c ∨ w ≤ j) → F c j = 0 := fun c j h1 h2 h3 => by rw [hF c j h1 h2, if_neg (by omega)]
  -- the hats
  have hhat : ∀ c j, c < w → j < w → mr_hat M F c j = mr_hat M S (a + c) (a + j) := fun c j h1 h2 => by
    unfold mr_hat
    rw [hlo c c h1 h1]
    split
    · exact hlo c j h1 h2
    · unfold mr_e
      by_cases e : j = c
      · rw [if_pos e, if_pos (by omega)]
      · rw [if_neg e, if_neg (by omega)]
  have hhat2 : ∀ c, w ≤ c → c < 3 → mr_hat M F c = mr_e c M := fun c h1 h2 => mr_hat_neg (by rw [hhi c c h2 h2 (Or.inl h1)]; decide)
  have hhat3 : ∀ c j, c < w → w ≤ j → j < 3 → mr_hat M F c j = 0 := fun c j h1 h2 h3 => by
    unfold mr_hat
    split
    · exact hhi c j (by omega) h3 (Or.inr h2)
    · exact mr_e_ne _ (by omega)
  have hB3 : ∀ c, c < 3 → mr_B1 M 3 c (F c) := fun c hc => by
    refine ⟨fun j hj => ?_, fun j hj => ?_, fun z j hj => ?_⟩
    · by_cases e : c < w ∧ j < w
      · rw [hlo c j e.1 e.2]; exact (hB (a + c) (by omega)).1 (a + j) (by omega)
      · rw [hhi c j hc hj (by omega)]; omega
    · by_cases e : c < w ∧ j < w
      · rw [hlo c j e.1 e.2]; exact (hB (a + c) (by omega)).2.1 (a + j) (by omega)
      · exact hhi c j hc (by omega) (by omega)
    · by_cases e : c < w ∧ j < w
      · rw [hlo c j e.1 e.2]
        rw [hlo c c e.1 e.1] at z
        exact (hB (a + c) (by omega)).2.2 z (a + j) (by omega)
      · exact hhi c j hc hj (by omega)
  refine ⟨⟨fun x y h hx => ⟨(mr_Lat_up hls hw).1 x y h hx.1, fun j h1 h2 => by rw [← h j h2]; exact hx.2 j h1 h2⟩, ⟨hls.2.1, fun j _ _ => ⟨0, by simp⟩⟩, fun x y k hx hy => ⟨hls.2.2 x y k hx.1 hy.1, fun j h1 h2 => Int.dvd_add (hx.2 j h1 h2) (Int.dvd_mul_of_dvd_right (hy.2 j h1 h2))⟩⟩, fun j hj => ⟨?_, fun i h1 h2 => ?_⟩, fun x hx => hx.2, fun c hc => ?_, hB3⟩
  · by_cases e : j < w
    · refine hl.1 (mr_e (a + j) M) _ (fun i hi => ?_) (hem (a + j) (by omega))
      unfold mr_sft mr_e
      by_cases e2 : i = a + j
      · rw [if_pos e2, if_neg (by omega), if_pos (by omega)]
      · rw [if_neg e2]
        split
        · rfl
        · rw [if_neg (by omega)]
    · refine hl.1 _ _ (fun i hi => ?_) hl.2.1
      unfold mr_sft
      split
      · rfl
      · rw [mr_e_ne _ (by omega)]
  · by_cases e : i = j
    · rw [e, mr_e_same]; exact Int.dvd_refl M
    · rw [mr_e_ne _ e]; exact ⟨0, by simp⟩
  · obtain ⟨b1, b2, b3⟩ := mr_hat_lead hM.1 hc (hB3 c hc)
    by_cases e : c < w
    · obtain ⟨a1, a2, a3, a4, a5⟩ := hH (a + c) (by omega)
      refine ⟨⟨hl.1 (mr_hat M S (a + c)) _ (fun i hi => ?_) a1, fun j h1 h2 => by rw [hhat3 c j e h1 h2]; exact ⟨0, by simp⟩⟩, b2, b1, fun x hx hz => ?_, fun j h1 h2 => ?_⟩
      · by_cases e2 : i < a
        · rw [mr_sft_lo _ e2, a2 i (by omega)]
        · have e3 : i = a + (i - a) := by omega
          rw [e3, mr_sft_hi, hhat c (i - a) e (by omega)]
      · have := a4 _ hx.1 (fun j hj => by
          by_cases e2 : j < a
          · exact mr_sft_lo _ e2
          · rw [show j = a + (j - a) by omega, mr_sft_hi]
            exact hz _ (by omega))
        rw [mr_sft_hi, ← hhat c c e e] at this
        exact this
      · by_cases e2 : j < w
        · have := a5 (a + j) (by omega) (by omega)
          rw [hhat c j e e2, hhat j j e2 e2]
          exact this
        · rw [hhat3 c j e (by omega) h2, hhat2 j (by omega) h2, mr_e_same]
          omega
    · refine ⟨⟨?_, fun j h1 h2 => ?_⟩, b2, b1, fun x hx hz => ?_, fun j h1 h2 => ?_⟩
      · rw [hhat2 c (by omega) hc]
        refine hl.1 _ _ (fun i hi => ?_) hl.2.1
        unfold mr_sft
        split
        · rfl
        · rw [mr_e_ne _ (by omega)]
      · rw [hhat2 c (by omega) hc]
        by_cases e2 : j = c
        · rw [e2, mr_e_same]; exact Int.dvd_refl M
        · rw [mr_e_ne _ e2]; exact ⟨0, by simp⟩
      · rw [hhat2 c (by omega) hc, mr_e_same]
        exact hx.2 c (by omega) hc
      · rw [hhat2 c (by omega) hc, mr_e_ne _ (by omega), hhat2 j (by omega) h2, mr_e_same]
        omega
