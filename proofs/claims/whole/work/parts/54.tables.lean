/-! What tables of rows make. -/
/-- only the first w numbers -/
def mr_tr (w : Nat) (x : mr_V) : mr_V := fun j => if j < w then x j else 0
theorem mr_tr_lo {w j : Nat} (x : mr_V) (h : j < w) : mr_tr w x j = x j := if_pos h
theorem mr_tr_hi {w j : Nat} (x : mr_V) (h : ¬ j < w) : mr_tr w x j = 0 := if_neg h
theorem mr_tr_lin (w : Nat) (x y : mr_V) (k : Int) : mr_tr w (fun j => x j + k * y j) = fun j => mr_tr w x j + k * mr_tr w y j := by
  funext j
  unfold mr_tr
  split
  · rfl
  · simp
theorem mr_tr_z (w : Nat) : mr_tr w (fun _ => 0) = fun _ => 0 := by
  funext j
  unfold mr_tr
  split <;> rfl
/-- a lattice of w columns in three -/
def mr_Q3 (M : Int) (w : Nat) (Q : mr_V → Prop) : Prop := mr_Lat 3 Q ∧ (∀ j, j < 3 → Q (mr_e j M)) ∧ ∀ x, Q x → ∀ j, w ≤ j → j < 3 → M ∣ x j
theorem mr_Fo_Q3 {M : Int} {w : Nat} {F : Nat → mr_V} {L : mr_V → Prop} (h : mr_Fo M w F L) : mr_Q3 M w L := ⟨h.1, h.2.1, h.2.2.1⟩
theorem mr_Q3_mod {M : Int} {w : Nat} {Q : mr_V → Prop} (h : mr_Q3 M w Q) {x y : mr_V} (hd : ∀ j, j < 3 → M ∣ y j - x j) (hx : Q x) : Q y := mr_Lat_mod h.1 h.2.1 hd hx
theorem mr_dvd_0 (M : Int) : M ∣ 0 := ⟨0, by simp⟩
theorem mr_Q3_tr {M : Int} {w : Nat} {Q : mr_V → Prop} (h : mr_Q3 M w Q) {x : mr_V} (hx : Q x) : Q (mr_tr w x) := mr_Q3_mod h (fun j hj => by
  by_cases e : j < w
  · rw [mr_tr_lo _ e]; rw [Int.sub_self]; exact mr_dvd_0 M
  · rw [mr_tr_hi _ e, Int.zero_sub]; exact Int.dvd_neg.mpr (h.2.2 x hx j (by omega) hj)) hx
theorem mr_Q3_of_tr {M : Int} {w : Nat} {Q : mr_V → Prop} (h : mr_Q3 M w Q) {x : mr_V} (hw : ∀ j, w ≤ j → j < 3 → M ∣ x j) (hx : Q (mr_tr w x)) : Q x := mr_Q3_mod h (fun j hj => by
  by_cases e : j < w
  · rw [mr_tr_lo _ e]; rw [Int.sub_self]; exact mr_dvd_0 M
  · rw [mr_tr_hi _ e, Int.sub_zero]; exact hw j (by omega) hj) hx
theorem mr_tr_lat {n : Nat} {P : mr_V → Prop} (h : mr_Lat n P) (w : Nat) (hw : w ≤ n) : mr_Lat w (fun x => P (mr_tr w x)) := by
  refine ⟨fun x y e hx => h.1 _ _ (fun j hj => ?_) hx, ?_, fun x y k hx hy => ?_⟩
  · unfold mr_tr
    split
    · exact e j (by assumption)
    · rfl
  · show P (mr_tr w (fun _ => 0)); rw [mr_tr_z]; exact h.2.1
  · show P (mr_tr w (fun j => x j + k * y j)); rw [mr_tr_lin]; exact h.2.2 _ _ k hx hy
theorem mr_sft_0 (x : mr_V) : mr_sft 0 x = x := by
  funext j
  unfold mr_sft
  rw [if_neg (by omega)]
  rfl
/-- no cut -/
theorem mr_cut0 {M : Int} {w ct : Nat} (hw : w ≤ 3) {R : Nat → mr_V} {Q : mr_V → Prop} (hQ : mr_Q3 M w Q) (hrow : ∀ r, r < ct → Q (mr_tr w (R r))) (hgen : ∀ P : mr_V → Prop, mr_Lat 3 P → (∀ j, j < 3 → P (mr_e j M)) → (∀ r, r < ct → P (mr_tr w (R r))) → ∀ x, Q x → P x) : ∀ x, (mr_Lc M w ct 0 R (mr_sft 0 x) ∧ ∀ j, w ≤ j → j < 3 → M ∣ x j) ↔ Q x := by
  intro x
  rw [mr_sft_0]
  have hl := mr_Lc_lat M w ct 0 R
  constructor
  · rintro ⟨h1, h2⟩
    refine mr_Q3_of_tr hQ h2 ?_
    refine mr_Sp_le (P := fun y => Q (mr_tr w y)) (mr_tr_lat hQ.1 w hw) (fun y hy => ?_) h1
    rcases hy with ⟨r, hr, rfl⟩ | ⟨j, g1, g2, rfl⟩
    · exact hrow r hr
    · exact mr_Q3_tr hQ (hQ.2.1 j (by omega))
  · intro h
    refine ⟨hgen (mr_Lc M w ct 0 R) (mr_Lat_up hl hw) (fun j hj => ?_) (fun r hr => ?_) x h, hQ.2.2 x h⟩
    · by_cases e : j < w
      · exact mr_Sp_gen (Or.inr ⟨j, Nat.zero_le j, e, rfl⟩)
      · exact hl.1 _ _ (fun i hi => (mr_e_ne M (by omega)).symm) hl.2.1
    · exact hl.1 (R r) _ (fun i hi => (mr_tr_lo _ hi).symm) (mr_Sp_gen (Or.inl ⟨r, hr, rfl⟩))
/-- a row more -/
def mr_LA (L : mr_V → Prop) (r : mr_V) : mr_V → Prop := fun x => ∃ k : Int, L (fun j => x j + -k * r j)
theorem mr_LA_Q3 {M : Int} {w : Nat} {L : mr_V → Prop} {r : mr_V} (h : mr_Q3 M w L) (hr : ∀ j, w ≤ j → j < 3 → M ∣ r j) : mr_Q3 M w (mr_LA L r) := by
  refine ⟨⟨fun x y e ⟨k, hk⟩ => ⟨k, h.1.1 _ _ (fun j hj => by show x j + -k * r j = y j + -k * r j; rw [e j hj]) hk⟩, ⟨0, h.1.1 _ _ (fun j _ => by show (0 : Int) = 0 + -0 * r j; simp) h.1.2.1⟩, fun x y q ⟨k1, h1⟩ ⟨k2, h2⟩ => ⟨k1 + q * k2, h.1.1 _ _ (fun j _ => ?_) (h.1.2.2 _ _ q h1 h2)⟩⟩, fun j hj => ⟨0, h.1.1 (mr_e j M) _ (fun i _ => by show mr_e j M i = mr_e j M i + -0 * r i; simp) (h.2.1 j hj)⟩, fun x ⟨k, hk⟩ j h1 h2 => ?_⟩
  · show x j + -k1 * r j + q * (y j + -k2 * r j) = x j + q * y j + -(k1 + q * k2) * r j
    grind
  · have a := h.2.2 _ hk j h1 h2
    have b : M ∣ k * r j := Int.dvd_mul_of_dvd_right (hr j h1 h2)
    have c := Int.dvd_add a b
    rw [show x j + -k * r j + k * r j = x j by rw [Int.neg_mul]; omega] at c
    exact c
theorem mr_LA_in {n : Nat} {L : mr_V → Prop} (h : mr_Lat n L) (r : mr_V) {x : mr_V} (hx : L x) : mr_LA L r x := ⟨0, h.1 x _ (fun j _ => by show x j = x j + -0 * r j; simp) hx⟩
theorem mr_LA_self {n : Nat} {L : mr_V → Prop} (h : mr_Lat n L) (r : mr_V) : mr_LA L r r := ⟨1, h.1 (fun _ => 0) _ (fun j _ => by show (0 : Int) = r j + -1 * r j; omega) h.2.1⟩
theorem mr_cutA {M : Int} {w : Nat} (hw : w ≤ 3) {F R : Nat → mr_V} {L : mr_V → Prop} (hL : mr_Fo M w F L) {r : mr_V} (hr : ∀ j, w ≤ j → j < 3 → M ∣ r j) (h1 : ∀ c, c < w → ∀ j, j < w → M ∣ R c j - F c j) (h2 : ∀ j, j < w → M ∣ R w j - r j) (hz : ∀ c, w ≤ c → c < 3 → ∀ j, j < 3 → F c j = 0) : ∀ x, (mr_Lc M w (w + 1) 0 R (mr_sft 0 x) ∧ ∀ j, w ≤ j → j < 3 → M ∣ x j) ↔ mr_LA L r x := by
  have hQ := mr_LA_Q3 (mr_Fo_Q3 hL) hr
  have eF : ∀ c, c < w → ∀ j, j < 3 → M ∣ mr_tr w (R c) j - F c j := fun c hc j hj => by
    by_cases e : j < w
    · rw [mr_tr_lo _ e]; exact h1 c hc j e
    · rw [mr_tr_hi _ e, Int.zero_sub]; exact Int.dvd_neg.mpr (hL.2.2.1 _ (mr_Fo_in hL (by omega)) j (by omega) hj)
  have er : ∀ j, j < 3 → M ∣ mr_tr w (R w) j - r j := fun j hj => by
    by_cases e : j < w
    · rw [mr_tr_lo _ e]; exact h2 j e
    · rw [mr_tr_hi _ e, Int.zero_sub]; exact Int.dvd_neg.mpr (hr j (by omega) hj)
  have hsym : ∀ {a b : Int}, M ∣ a - b → M ∣ b - a := fun {a b} h => by have := Int.dvd_neg.mpr h; rw [Int.neg_sub] at this; exact this
  refine mr_cut0 hw hQ (fun q hq => ?_) (fun P hP hPe hPr x hx => ?_)
  · by_cases e : q = w
    · subst e; exact mr_Q3_mod hQ er (mr_LA_self hL.1 r)
    · exact mr_Q3_mod hQ (eF q (by omega)) (mr_LA_in hL.1 r (mr_Fo_in hL (by omega)))
  · obtain ⟨k, hk⟩ := hx
    have hLP : ∀ y, L y → P y := fun y hy => mr_Fo_gen hL hP (fun c hc => by
      by_cases e : c < w
      · exact mr_Lat_mod hP hPe (fun j hj => hsym (eF c e j hj)) (hPr c (by omega))
      · exact mr_H_zero hP (hz c (by omega) hc)) hPe hy
    have hPr2 : P r := mr_Lat_mod hP hPe (fun j hj => hsym (er j hj)) (hPr w (by omega))
    exact hP.1 _ _ (fun j _ => by show x j + -k * r j + k * r j = x j; rw [Int.neg_mul]; omega) (hP.2.2 _ _ k (hLP _ hk) hPr2)
/-- two together -/
def mr_LJ (L L' : mr_V → Prop) : mr_V → Prop := fun x => ∃ y : mr_V, L y ∧ L' (fun j => x j + -1 * y j)
theorem mr_LJ_Q3 {M : Int} {w : Nat} {L L' : mr_V → Prop} (h : mr_Q3 M w L) (h' : mr_Q3 M w L') : mr_Q3 M w (mr_LJ L L') := by
  refine ⟨⟨fun x y e ⟨z, h1, h2⟩ => ⟨z, h1, h'.1.1 _ _ (fun j hj => by show x j + -1 * z j = y j + -1 * z j; rw [e j hj]) h2⟩, ⟨_, h.1.2.1, h'.1.1 _ _ (fun j _ => by show (0 : Int) = 0 + -1 * 0; simp) h'.1.2.1⟩, fun x y q ⟨z1, h1, h2⟩ ⟨z2, h3, h4⟩ => ⟨_, h.1.2.2 _ _ q h1 h3, h'.1.1 _ _ (fun j _ => ?_) (h'.1.2.2 _ _ q h2 h4)⟩⟩, fun j hj => ⟨_, h.1.2.1, h'.1.1 (mr_e j M) _ (fun i _ => by show mr_e j M i = mr_e j M i + -1 * 0; simp) (h'.2.1 j hj)⟩, fun x ⟨z, h1, h2⟩ j g1 g2 => ?_⟩
  · show x j + -1 * z1 j + q * (y j + -1 * z2 j) = x j + q * y j + -1 * (z1 j + q * z2 j)
    grind
  · have c := Int.dvd_add (h'.2.2 _ h2 j g1 g2) (h.2.2 _ h1 j g1 g2)
    rw [show x j + -1 * z j + z j = x j by omega] at c
    exact c
theorem mr_cutJ {M : Int} {w : Nat} (hw : w ≤ 3) {F F' R : Nat → mr_V} {L L' : mr_V → Prop} (hL : mr_Fo M w F L) (hL' : mr_Fo M w F' L') (h1 : ∀ c, c < w → ∀ j, j < w → M ∣ R c j - F c j) (h2 : ∀ c, c < w → ∀ j, j < w → M ∣ R (w + c) j - F' c j) (hz : ∀ c, w ≤ c → c < 3 → ∀ j, j < 3 → F c j = 0) (hz' : ∀ c, w ≤ c → c < 3 → ∀ j, j < 3 → F' c j = 0) : ∀ x, (mr_Lc M w (w + w) 0 R (mr_sft 0 x) ∧ ∀ j, w ≤ j → j < 3 → M ∣ x j) ↔ mr_LJ L L' x := by
  have hQ := mr_LJ_Q3 (mr_Fo_Q3 hL) (mr_Fo_Q3 hL')
  have eF : ∀ {F : Nat → mr_V} {L : mr_V → Prop} {g : mr_V}, mr_Fo M w F L → ∀ c, c < w → (∀ j, j < w → M ∣ g j - F c j) → ∀ j, j < 3 → M ∣ mr_tr w g j - F c j := fun {F L g} hL c hc h1 j hj => by
    by_cases e : j < w
    · rw [mr_tr_lo _ e]; exact h1 j e
    · rw [mr_tr_hi _ e, Int.zero_sub]; exact Int.dvd_neg.mpr (hL.2.2.1 _ (mr_Fo_in hL (by omega)) j (by omega) hj)
  have hsym : ∀ {a b : Int}, M ∣ a - b → M ∣ b - a := fun {a b} h => by have := Int.dvd_neg.mpr h; rw [Int.neg_sub] at this; exact this
  have inl : ∀ y, L y → mr_LJ L L' y := fun y hy => ⟨y, hy, hL'.1.1 (fun _ => 0) _ (fun j _ => by show (0 : Int) = y j + -1 * y j; omega) hL'.1.2.1⟩
  have inr : ∀ y, L' y → mr_LJ L L' y := fun y hy => ⟨fun _ => 0, hL.1.2.1, hL'.1.1 y _ (fun j _ => by show y j = y j + -1 * 0; simp) hy⟩
  refine mr_cut0 hw hQ (fun q hq => ?_) (fun P hP hPe hPr x hx => ?_)
  · by_cases e : q < w
    · exact mr_Q3_mod hQ (eF hL q e (h1 q e)) (inl _ (mr_Fo_in hL (by omega)))
    · rw [show q = w + (q - w) by omega]
      exact mr_Q3_mod hQ (eF hL' (q - w) (by omega) (h2 (q - w) (by omega))) (inr _ (mr_Fo_in hL' (by omega)))
  · obtain ⟨y, hy1, hy2⟩ := hx
    have hLP : ∀ y, L y → P y := fun y hy => mr_Fo_gen hL hP (fun c hc => by
      by_cases e : c < w
      · exact mr_Lat_mod hP hPe (fun j hj => hsym (eF hL c e (h1 c e) j hj)) (hPr c (by omega))
      · exact mr_H_zero hP (hz c (by omega) hc)) hPe hy
    have hLP' : ∀ y, L' y → P y := fun y hy => mr_Fo_gen hL' hP (fun c hc => by
      by_cases e : c < w
      · exact mr_Lat_mod hP hPe (fun j hj => hsym (eF hL' c e (h2 c e) j hj)) (hPr (w + c) (by omega))
      · exact mr_H_zero hP (hz' c (by omega) hc)) hPe hy
    exact hP.1 _ _ (fun j _ => by show x j + -1 * y j + 1 * y j = x j; omega) (hP.2.2 _ _ 1 (hLP' _ hy2) (hLP _ hy1))
/-- u times -/
def mr_LT (M u : Int) (L : mr_V → Prop) : mr_V → Prop := fun x => ∃ y : mr_V, L y ∧ ∀ j, j < 3 → M ∣ x j - u * y j
theorem mr_LT_Q3 {M u : Int} {w : Nat} {L : mr_V → Prop} (h : mr_Q3 M w L) : mr_Q3 M w (mr_LT M u L) := by
  refine ⟨⟨fun x y e ⟨z, h1, h2⟩ => ⟨z, h1, fun j hj => by rw [← e j hj]; exact h2 j hj⟩, ⟨_, h.1.2.1, fun j _ => ⟨0, by simp⟩⟩, fun x y q ⟨z1, h1, h2⟩ ⟨z2, h3, h4⟩ => ⟨_, h.1.2.2 _ _ q h1 h3, fun j hj => ?_⟩⟩, fun j hj => ⟨_, h.1.2.1, fun i hi => ?_⟩, fun x ⟨z, h1, h2⟩ j g1 g2 => ?_⟩
  · have c := Int.dvd_add (h2 j hj) (Int.dvd_mul_of_dvd_right (b := q) (h4 j hj))
    rw [show x j - u * z1 j + q * (y j - u * z2 j) = x j + q * y j - u * (z1 j + q * z2 j) by grind] at c
    exact c
  · rw [show mr_e j M i - u * 0 = mr_e j M i by simp]
    by_cases e : i = j
    · rw [e, mr_e_same]; exact Int.dvd_refl M
    · rw [mr_e_ne _ e]; exact mr_dvd_0 M
  · have c := Int.dvd_add (h2 j g2) (Int.dvd_mul_of_dvd_right (b := u) (h.2.2 _ h1 j g1 g2))
    rw [show x j - u * z j + u * z j = x j by omega] at c
    exact c
theorem mr_cutT {M u : Int} {w : Nat} (hw : w ≤ 3) {F R : Nat → mr_V} {L : mr_V → Prop} (hL : mr_Fo M w F L) (h1 : ∀ c, c < w → ∀ j, j < w → M ∣ R c j - u * F c j) (hz : ∀ c, w ≤ c → c < 3 → ∀ j, j < 3 → F c j = 0) : ∀ x, (mr_Lc M w w 0 R (mr_sft 0 x) ∧ ∀ j, w ≤ j → j < 3 → M ∣ x j) ↔ mr_LT M u L x := by
  have hQ := mr_LT_Q3 (u := u) (mr_Fo_Q3 hL)
  have eF : ∀ c, c < w → ∀ j, j < 3 → M ∣ mr_tr w (R c) j - u * F c j := fun c hc j hj => by
    by_cases e : j < w
    · rw [mr_tr_lo _ e]; exact h1 c hc j e
    · rw [mr_tr_hi _ e, Int.zero_sub]; exact Int.dvd_neg.mpr (Int.dvd_mul_of_dvd_right (hL.2.2.1 _ (mr_Fo_in hL (by omega)) j (by omega) hj))
  have hsym : ∀ {a b : Int}, M ∣ a - b → M ∣ b - a := fun {a b} h => by have := Int.dvd_neg.mpr h; rw [Int.neg_sub] at this; exact this
  refine mr_cut0 hw hQ (fun q hq => ⟨F q, mr_Fo_in hL (by omega), eF q hq⟩) (fun P hP hPe hPr x hx => ?_)
  obtain ⟨y, hy1, hy2⟩ := hx
  have hLat : mr_Lat 3 (fun y : mr_V => P (fun j => u * y j)) := by
    refine ⟨fun x y e hx => hP.1 _ _ (fun j hj => by show u * x j = u * y j; rw [e j hj]) hx, hP.1 _ _ (fun j _ => by show (0 : Int) = u * 0; simp) hP.2.1, fun x y k hx hy => hP.1 _ _ (fun j _ => ?_) (hP.2.2 _ _ k hx hy)⟩
    show u * x j + k * (u * y j) = u * (x j + k * y j)
    grind
  have hLP : P (fun j => u * y j) := mr_Fo_gen (P := fun y : mr_V => P (fun j => u * y j)) hL hLat (fun c hc => by
      by_cases e : c < w
      · exact mr_Lat_mod hP hPe (fun j hj => hsym (eF c e j hj)) (hPr c (by omega))
      · exact mr_H_zero hP (fun j hj => by show u * F c j = 0; rw [hz c (by omega) hc j hj]; simp)) (fun j hj => mr_Lat_smul hP u (hPe j hj)) hy1
  exact mr_Lat_mod hP hPe hy2 hLP
