theorem mr_dvd_sym {M a b : Int} (h : M ∣ a - b) : M ∣ b - a := by have := Int.dvd_neg.mpr h; rw [Int.neg_sub] at this; exact this
theorem mr_dvd_same (M a : Int) : M ∣ a - a := by rw [Int.sub_self]; exact mr_dvd_0 M
theorem mr_Lc_e {M : Int} {n ct : Nat} {R : Nat → mr_V} {j : Nat} (hj : j < n) : mr_Lc M n ct 0 R (mr_e j M) := mr_Sp_gen (Or.inr ⟨j, Nat.zero_le j, hj, rfl⟩)
theorem mr_Lc_row {M : Int} {n ct : Nat} {R : Nat → mr_V} {r : Nat} (hr : r < ct) {y : mr_V} (h : ∀ j, j < n → M ∣ y j - R r j) : mr_Lc M n ct 0 R y := mr_Lat_mod (mr_Lc_lat M n ct 0 R) (fun _ hj => mr_Lc_e hj) h (mr_Sp_gen (Or.inl ⟨r, hr, rfl⟩))
/-- both -/
def mr_du2 (w : Nat) (x : mr_V) : mr_V := fun j => if j < w then x j else x (j - w)
theorem mr_cutM {M : Int} {w : Nat} (hw : w ≤ 3) {F F' R : Nat → mr_V} {L L' : mr_V → Prop} (hL : mr_Fo M w F L) (hL' : mr_Fo M w F' L') (h1 : ∀ c, c < w → ∀ j, j < w → M ∣ R c j - F c j ∧ M ∣ R c (w + j) - F c j) (h2 : ∀ c, c < w → ∀ j, j < w → M ∣ R (w + c) j - F' c j ∧ M ∣ R (w + c) (w + j)) (hz : ∀ c, w ≤ c → c < 3 → ∀ j, j < 3 → F c j = 0) (hz' : ∀ c, w ≤ c → c < 3 → ∀ j, j < 3 → F' c j = 0) : ∀ x, (mr_Lc M (w + w) (w + w) 0 R (mr_sft w x) ∧ ∀ j, w ≤ j → j < 3 → M ∣ x j) ↔ (L x ∧ L' x) := by
  have hl := mr_Lc_lat M (w + w) (w + w) 0 R
  have q1 := mr_Fo_Q3 hL
  have q2 := mr_Fo_Q3 hL'
  intro x
  constructor
  · rintro ⟨g1, g2⟩
    have key : L (mr_tr w (fun j => mr_sft w x (w + j))) ∧ L' (mr_tr w (fun j => mr_sft w x j + -1 * mr_sft w x (w + j))) := by
      refine mr_Sp_le (P := fun y => L (mr_tr w (fun j => y (w + j))) ∧ L' (mr_tr w (fun j => y j + -1 * y (w + j)))) ⟨fun a b e ⟨k1, k2⟩ => ⟨q1.1.1 _ _ (fun j hj => ?_) k1, q2.1.1 _ _ (fun j hj => ?_) k2⟩, ⟨q1.1.1 _ _ (fun j _ => ?_) q1.1.2.1, q2.1.1 _ _ (fun j _ => ?_) q2.1.2.1⟩, fun a b k ⟨k1, k2⟩ ⟨k3, k4⟩ => ⟨q1.1.1 _ _ (fun j _ => ?_) (q1.1.2.2 _ _ k k1 k3), q2.1.1 _ _ (fun j _ => ?_) (q2.1.2.2 _ _ k k2 k4)⟩⟩ (fun y hy => ?_) g1
      · unfold mr_tr; split
        · exact e _ (by omega)
        · rfl
      · unfold mr_tr; split
        · dsimp only; rw [e j (by omega), e (w + j) (by omega)]
        · rfl
      · unfold mr_tr; split <;> simp
      · unfold mr_tr; split <;> simp
      · unfold mr_tr; split
        · rfl
        · simp
      · unfold mr_tr; split
        · grind
        · simp
      · rcases hy with ⟨r, hr, rfl⟩ | ⟨j, j1, j2, rfl⟩
        · by_cases e : r < w
          · refine ⟨mr_Q3_mod q1 (x := F r) (fun j hj => ?_) (mr_Fo_in hL (by omega)), mr_Q3_mod q2 (x := fun _ => 0) (fun j hj => ?_) q2.1.2.1⟩
            · by_cases ej : j < w
              · rw [mr_tr_lo _ ej]; exact (h1 r e j ej).2
              · rw [mr_tr_hi _ ej, Int.zero_sub]; exact Int.dvd_neg.mpr (hL.2.2.1 _ (mr_Fo_in hL (by omega)) j (by omega) hj)
            · by_cases ej : j < w
              · rw [mr_tr_lo _ ej]
                have := Int.dvd_sub (h1 r e j ej).1 (h1 r e j ej).2
                rw [show R r j - F r j - (R r (w + j) - F r j) = R r j + -1 * R r (w + j) - 0 by omega] at this
                exact this
              · rw [mr_tr_hi _ ej]; exact mr_dvd_same _ _
          · have er : r = w + (r - w) := by omega
            rw [er]
            refine ⟨mr_Q3_mod q1 (x := fun _ => 0) (fun j hj => ?_) q1.1.2.1, mr_Q3_mod q2 (x := F' (r - w)) (fun j hj => ?_) (mr_Fo_in hL' (by omega))⟩
            · by_cases ej : j < w
              · rw [mr_tr_lo _ ej, Int.sub_zero]; exact (h2 (r - w) (by omega) j ej).2
              · rw [mr_tr_hi _ ej]; exact mr_dvd_same _ _
            · by_cases ej : j < w
              · rw [mr_tr_lo _ ej]
                have := Int.dvd_sub (h2 (r - w) (by omega) j ej).1 (h2 (r - w) (by omega) j ej).2
                rw [show R (w + (r - w)) j - F' (r - w) j - R (w + (r - w)) (w + j) = R (w + (r - w)) j + -1 * R (w + (r - w)) (w + j) - F' (r - w) j by omega] at this
                exact this
              · rw [mr_tr_hi _ ej, Int.zero_sub]; exact Int.dvd_neg.mpr (hL'.2.2.1 _ (mr_Fo_in hL' (by omega)) j (by omega) hj)
        · have hall : ∀ i : Nat, M ∣ mr_e j M i := fun i => by
            by_cases e : i = j
            · rw [e, mr_e_same]; exact Int.dvd_refl M
            · rw [mr_e_ne _ e]; exact mr_dvd_0 M
          refine ⟨mr_Q3_mod q1 (x := fun _ => 0) (fun i hi => ?_) q1.1.2.1, mr_Q3_mod q2 (x := fun _ => 0) (fun i hi => ?_) q2.1.2.1⟩
          · unfold mr_tr; split
            · rw [Int.sub_zero]; exact hall _
            · exact mr_dvd_same _ _
          · unfold mr_tr; split
            · rw [Int.sub_zero]; exact Int.dvd_add (hall _) (Int.dvd_mul_of_dvd_right (hall _))
            · exact mr_dvd_same _ _
    obtain ⟨k1, k2⟩ := key
    refine ⟨mr_Q3_of_tr q1 g2 (q1.1.1 _ _ (fun j hj => ?_) k1), mr_Q3_of_tr q2 g2 (q2.1.1 _ _ (fun j hj => ?_) (mr_Lat_smul q2.1 (-1) k2))⟩
    · unfold mr_tr; split
      · dsimp only; rw [mr_sft_hi]
      · rfl
    · show -1 * mr_tr w (fun j => mr_sft w x j + -1 * mr_sft w x (w + j)) j = mr_tr w x j
      unfold mr_tr; split
      · rename_i e
        dsimp only; rw [mr_sft_hi, mr_sft_lo _ e]; omega
      · simp
  · rintro ⟨g1, g2⟩
    refine ⟨?_, hL.2.2.1 x g1⟩
    have p1 : mr_Lc M (w + w) (w + w) 0 R (mr_du2 w x) := by
      refine mr_Fo_gen (P := fun y => mr_Lc M (w + w) (w + w) 0 R (mr_du2 w y)) hL ⟨fun a b e ha => hl.1 _ _ (fun j hj => ?_) ha, hl.1 _ _ (fun j _ => ?_) hl.2.1, fun a b k ha hb => hl.1 _ _ (fun j _ => ?_) (hl.2.2 _ _ k ha hb)⟩ (fun c hc => ?_) (fun c hc => ?_) g1
      · unfold mr_du2; split
        · exact e j (by omega)
        · exact e _ (by omega)
      · unfold mr_du2; split <;> rfl
      · unfold mr_du2; split <;> rfl
      · by_cases e : c < w
        · refine mr_Lc_row (show c < w + w by omega) (fun j hj => ?_)
          unfold mr_du2
          split
          · exact mr_dvd_sym (h1 c e j (by assumption)).1
          · have := (h1 c e (j - w) (by omega)).2
            rw [show w + (j - w) = j by omega] at this
            exact mr_dvd_sym this
        · refine mr_H_zero hl (fun j hj => ?_)
          unfold mr_du2
          split
          · exact hz c (by omega) hc j (by omega)
          · exact hz c (by omega) hc _ (by omega)
      · refine mr_Lat_mod hl (fun _ h => mr_Lc_e h) (x := fun _ => 0) (fun j hj => ?_) hl.2.1
        rw [Int.sub_zero]
        unfold mr_du2 mr_e
        split <;> split <;> first | exact Int.dvd_refl M | exact mr_dvd_0 M
    have p2 : mr_Lc M (w + w) (w + w) 0 R (mr_tr w x) := by
      refine mr_Fo_gen (P := fun y => mr_Lc M (w + w) (w + w) 0 R (mr_tr w y)) hL' (mr_Lat_up (mr_tr_lat hl w (by omega)) hw) (fun c hc => ?_) (fun c hc => ?_) g2
      · by_cases e : c < w
        · refine mr_Lc_row (show w + c < w + w by omega) (fun j hj => ?_)
          by_cases ej : j < w
          · rw [mr_tr_lo _ ej]; exact mr_dvd_sym (h2 c e j ej).1
          · rw [mr_tr_hi _ ej, Int.zero_sub]
            have := (h2 c e (j - w) (by omega)).2
            rw [show w + (j - w) = j by omega] at this
            exact Int.dvd_neg.mpr this
        · refine mr_H_zero hl (fun j hj => ?_)
          unfold mr_tr
          split
          · exact hz' c (by omega) hc j (by omega)
          · rfl
      · refine mr_Lat_mod hl (fun _ h => mr_Lc_e h) (x := fun _ => 0) (fun j hj => ?_) hl.2.1
        rw [Int.sub_zero]
        unfold mr_tr mr_e
        split
        · split
          · exact Int.dvd_refl M
          · exact mr_dvd_0 M
        · exact mr_dvd_0 M
    refine hl.1 _ _ (fun j hj => ?_) (hl.2.2 _ _ (-1) p1 p2)
    show mr_du2 w x j + -1 * mr_tr w x j = mr_sft w x j
    unfold mr_du2 mr_tr mr_sft
    split <;> omega
/-- a lattice that has all units has all rows -/
theorem mr_Lat_all {n : Nat} {P : mr_V → Prop} (hP : mr_Lat n P) (hu : ∀ c, c < n → P (mr_e c 1)) : ∀ (k : Nat) (x : mr_V), k ≤ n → (∀ j, k ≤ j → j < n → x j = 0) → P x
  | 0, x, _, hz => hP.1 _ _ (fun j hj => (hz j (Nat.zero_le j) hj).symm) hP.2.1
  | k + 1, x, hk, hz => by
    have h := mr_Lat_all hP hu k (fun j => x j + -(x k) * mr_e k 1 j) (by omega) (fun j h1 h2 => by
      show x j + -(x k) * mr_e k 1 j = 0
      by_cases e : j = k
      · rw [e, mr_e_same]; omega
      · rw [mr_e_ne _ e, hz j (by omega) h2]; simp)
    exact hP.1 _ _ (fun j _ => by show x j + -(x k) * mr_e k 1 j + x k * mr_e k 1 j = x j; rw [Int.neg_mul]; omega) (hP.2.2 _ _ (x k) h (hu k (by omega)))
/-- which u times are in it -/
def mr_LB2 (M u : Int) (w : Nat) (L : mr_V → Prop) : mr_V → Prop := fun x => L (fun j => u * x j) ∧ ∀ j, w ≤ j → j < 3 → M ∣ x j
theorem mr_cutB {M u : Int} {w : Nat} (hw : w ≤ 3) {F R : Nat → mr_V} {L : mr_V → Prop} (hL : mr_Fo M w F L) (h1 : ∀ c, c < w → ∀ j, j < w → M ∣ R c j - u * mr_e c 1 j ∧ M ∣ R c (w + j) - mr_e c 1 j) (h2 : ∀ c, c < w → ∀ j, j < w → M ∣ R (w + c) j - F c j ∧ M ∣ R (w + c) (w + j)) (hz : ∀ c, w ≤ c → c < 3 → ∀ j, j < 3 → F c j = 0) : ∀ x, (mr_Lc M (w + w) (w + w) 0 R (mr_sft w x) ∧ ∀ j, w ≤ j → j < 3 → M ∣ x j) ↔ mr_LB2 M u w L x := by
  have hl := mr_Lc_lat M (w + w) (w + w) 0 R
  have q1 := mr_Fo_Q3 hL
  intro x
  constructor
  · rintro ⟨g1, g2⟩
    refine ⟨?_, g2⟩
    have key : L (mr_tr w (fun j => mr_sft w x j + -u * mr_sft w x (w + j))) := by
      refine mr_Sp_le (P := fun y => L (mr_tr w (fun j => y j + -u * y (w + j)))) ⟨fun a b e k1 => q1.1.1 _ _ (fun j hj => ?_) k1, q1.1.1 _ _ (fun j _ => ?_) q1.1.2.1, fun a b k k1 k3 => q1.1.1 _ _ (fun j _ => ?_) (q1.1.2.2 _ _ k k1 k3)⟩ (fun y hy => ?_) g1
      · unfold mr_tr; split
        · dsimp only; rw [e j (by omega), e (w + j) (by omega)]
        · rfl
      · unfold mr_tr; split <;> simp
      · unfold mr_tr; split
        · grind
        · simp
      · rcases hy with ⟨r, hr, rfl⟩ | ⟨j, j1, j2, rfl⟩
        · by_cases e : r < w
          · refine mr_Q3_mod q1 (x := fun _ => 0) (fun j hj => ?_) q1.1.2.1
            by_cases ej : j < w
            · rw [mr_tr_lo _ ej]
              have := Int.dvd_add (h1 r e j ej).1 (Int.dvd_mul_of_dvd_right (b := -u) (h1 r e j ej).2)
              rw [show R r j - u * mr_e r 1 j + -u * (R r (w + j) - mr_e r 1 j) = R r j + -u * R r (w + j) - 0 by grind] at this
              exact this
            · rw [mr_tr_hi _ ej]; exact mr_dvd_same _ _
          · have er : r = w + (r - w) := by omega
            rw [er]
            refine mr_Q3_mod q1 (x := F (r - w)) (fun j hj => ?_) (mr_Fo_in hL (by omega))
            by_cases ej : j < w
            · rw [mr_tr_lo _ ej]
              have := Int.dvd_add (h2 (r - w) (by omega) j ej).1 (Int.dvd_mul_of_dvd_right (b := -u) (h2 (r - w) (by omega) j ej).2)
              rw [show R (w + (r - w)) j - F (r - w) j + -u * R (w + (r - w)) (w + j) = R (w + (r - w)) j + -u * R (w + (r - w)) (w + j) - F (r - w) j by omega] at this
              exact this
            · rw [mr_tr_hi _ ej, Int.zero_sub]; exact Int.dvd_neg.mpr (hL.2.2.1 _ (mr_Fo_in hL (by omega)) j (by omega) hj)
        · have hall : ∀ i : Nat, M ∣ mr_e j M i := fun i => by
            by_cases e : i = j
            · rw [e, mr_e_same]; exact Int.dvd_refl M
            · rw [mr_e_ne _ e]; exact mr_dvd_0 M
          refine mr_Q3_mod q1 (x := fun _ => 0) (fun i hi => ?_) q1.1.2.1
          unfold mr_tr; split
          · rw [Int.sub_zero]; exact Int.dvd_add (hall _) (Int.dvd_mul_of_dvd_right (hall _))
          · exact mr_dvd_same _ _
    refine mr_Q3_of_tr q1 (fun j h3 h4 => Int.dvd_mul_of_dvd_right (g2 j h3 h4)) (q1.1.1 _ _ (fun j hj => ?_) (mr_Lat_smul q1.1 (-1) key))
    show -1 * mr_tr w (fun j => mr_sft w x j + -u * mr_sft w x (w + j)) j = mr_tr w (fun j => u * x j) j
    unfold mr_tr; split
    · rename_i e
      dsimp only; rw [mr_sft_hi, mr_sft_lo _ e]; grind
    · simp
  · rintro ⟨g1, g2⟩
    refine ⟨?_, g2⟩
    have p1 : mr_Lc M (w + w) (w + w) 0 R (fun j => if j < w then u * x j else mr_tr w x (j - w)) := by
      refine mr_Lat_all (n := w) (P := fun x : mr_V => mr_Lc M (w + w) (w + w) 0 R (fun j => if j < w then u * x j else mr_tr w x (j - w))) ⟨fun a b e ha => hl.1 _ _ (fun j hj => ?_) ha, hl.1 _ _ (fun j _ => ?_) hl.2.1, fun a b k ha hb => hl.1 _ _ (fun j _ => ?_) (hl.2.2 _ _ k ha hb)⟩ (fun c hc => ?_) w x (Nat.le_refl w) (fun j h1 h2 => by omega)
      · by_cases ej : j < w
        · simp only [if_pos ej]; rw [e j ej]
        · simp only [if_neg ej]; rw [mr_tr_lo _ (by omega), mr_tr_lo _ (by omega)]; exact e _ (by omega)
      · show (0 : Int) = if j < w then u * 0 else mr_tr w (fun _ => 0) (j - w)
        rw [mr_tr_z]
        split <;> simp
      · show (if j < w then u * a j else mr_tr w a (j - w)) + k * (if j < w then u * b j else mr_tr w b (j - w)) = if j < w then u * (a j + k * b j) else mr_tr w (fun j => a j + k * b j) (j - w)
        rw [mr_tr_lin]
        split
        · grind
        · rfl
      · refine mr_Lc_row (show c < w + w by omega) (fun j hj => ?_)
        show M ∣ (if j < w then u * mr_e c 1 j else mr_tr w (mr_e c 1) (j - w)) - R c j
        by_cases ej : j < w
        · rw [if_pos ej]; exact mr_dvd_sym (h1 c hc j ej).1
        · rw [if_neg ej, mr_tr_lo _ (by omega)]
          have := (h1 c hc (j - w) (by omega)).2
          rw [show w + (j - w) = j by omega] at this
          exact mr_dvd_sym this
    have p2 : mr_Lc M (w + w) (w + w) 0 R (mr_tr w (fun j => u * x j)) := by
      refine mr_Fo_gen (P := fun y => mr_Lc M (w + w) (w + w) 0 R (mr_tr w y)) hL (mr_Lat_up (mr_tr_lat hl w (by omega)) hw) (fun c hc => ?_) (fun c hc => ?_) g1
      · by_cases e : c < w
        · refine mr_Lc_row (show w + c < w + w by omega) (fun j hj => ?_)
          by_cases ej : j < w
          · rw [mr_tr_lo _ ej]; exact mr_dvd_sym (h2 c e j ej).1
          · rw [mr_tr_hi _ ej, Int.zero_sub]
            have := (h2 c e (j - w) (by omega)).2
            rw [show w + (j - w) = j by omega] at this
            exact Int.dvd_neg.mpr this
        · refine mr_H_zero hl (fun j hj => ?_)
          unfold mr_tr
          split
          · exact hz c (by omega) hc j (by omega)
          · rfl
      · refine mr_Lat_mod hl (fun _ h => mr_Lc_e h) (x := fun _ => 0) (fun j hj => ?_) hl.2.1
        rw [Int.sub_zero]
        unfold mr_tr mr_e
        split
        · split
          · exact Int.dvd_refl M
          · exact mr_dvd_0 M
        · exact mr_dvd_0 M
    refine hl.1 _ _ (fun j hj => ?_) (hl.2.2 _ _ (-1) p1 p2)
    show (if j < w then u * x j else mr_tr w x (j - w)) + -1 * mr_tr w (fun j => u * x j) j = mr_sft w x j
    unfold mr_sft
    by_cases ej : j < w
    · rw [if_pos ej, if_pos ej, mr_tr_lo _ ej]; omega
    · rw [if_neg ej, if_neg ej, mr_tr_hi _ ej, mr_tr_lo _ (by omega)]; omega
/-- sums -/
def mr_sm : Nat → (Nat → Int) → Int
  | 0, _ => 0
  | k + 1, g => mr_sm k g + g k
theorem mr_sm_cg {g h : Nat → Int} : ∀ k : Nat, (∀ r, r < k → g r = h r) → mr_sm k g = mr_sm k h
  | 0, _ => rfl
  | k + 1, e => by unfold mr_sm; rw [mr_sm_cg k (fun r hr => e r (by omega)), e k (by omega)]
theorem mr_sm_lin (g h : Nat → Int) (q : Int) : ∀ k : Nat, mr_sm k (fun r => g r + q * h r) = mr_sm k g + q * mr_sm k h
  | 0 => by simp [mr_sm]
  | k + 1 => by unfold mr_sm; rw [mr_sm_lin g h q k]; grind
theorem mr_sm_z : ∀ k : Nat, mr_sm k (fun _ => 0) = 0
  | 0 => rfl
  | k + 1 => by unfold mr_sm; rw [mr_sm_z k]; rfl
theorem mr_sm_dvd {M : Int} {g : Nat → Int} : ∀ k : Nat, (∀ r, r < k → M ∣ g r) → M ∣ mr_sm k g
  | 0, _ => mr_dvd_0 M
  | k + 1, h => Int.dvd_add (mr_sm_dvd k (fun r hr => h r (by omega))) (h k (by omega))
theorem mr_sm_unit (g : Nat → Int) (c : Nat) : ∀ k : Nat, mr_sm k (fun r => g r * mr_e c 1 r) = if c < k then g c else 0
  | 0 => by rw [if_neg (by omega)]; rfl
  | k + 1 => by
    unfold mr_sm
    rw [mr_sm_unit g c k]
    show (if c < k then g c else 0) + g k * mr_e c 1 k = _
    by_cases e : c = k
    · subst e; rw [mr_e_same, if_neg (by omega), if_pos (by omega)]; omega
    · rw [mr_e_ne _ (by omega)]
      by_cases e2 : c < k
      · rw [if_pos e2, if_pos (by omega)]; omega
      · rw [if_neg e2, if_neg (by omega)]; simp
/-- rows with numbers h and a unit behind: what makes the numbers nought -/
theorem mr_cutU {M : Int} {n0 ct : Nat} {R : Nat → mr_V} {h : Nat → Nat → Int} (h1 : ∀ r, r < ct → ∀ i, i < n0 → M ∣ R r i - h r i) (h2 : ∀ r, r < ct → ∀ q, q < ct → M ∣ R r (n0 + q) - mr_e r 1 q) : ∀ x, mr_Lc M (n0 + ct) ct 0 R (mr_sft n0 x) ↔ ∀ i, i < n0 → M ∣ mr_sm ct (fun r => h r i * x r) := by
  have hl := mr_Lc_lat M (n0 + ct) ct 0 R
  intro x
  constructor
  · intro g1 i hi
    have key : ∀ i, i < n0 → M ∣ mr_sft n0 x i - mr_sm ct (fun r => h r i * mr_sft n0 x (n0 + r)) := by
      refine mr_Sp_le (P := fun y => ∀ i, i < n0 → M ∣ y i - mr_sm ct (fun r => h r i * y (n0 + r))) ⟨fun a b e ha i hi => ?_, fun i _ => ?_, fun a b k ha hb i hi => ?_⟩ (fun y hy i hi => ?_) g1
      · rw [← e i (by omega), ← mr_sm_cg ct (fun r hr => by rw [← e (n0 + r) (by omega)])]
        exact ha i hi
      · rw [mr_sm_cg (h := fun _ => 0) ct (fun r _ => by simp), mr_sm_z]; exact mr_dvd_same _ _
      · show M ∣ (a i + k * b i) - mr_sm ct (fun r => h r i * (a (n0 + r) + k * b (n0 + r)))
        rw [mr_sm_cg (h := fun r => h r i * a (n0 + r) + k * (h r i * b (n0 + r))) ct (fun r _ => by grind), mr_sm_lin]
        have := Int.dvd_add (ha i hi) (Int.dvd_mul_of_dvd_right (b := k) (hb i hi))
        rw [show a i - mr_sm ct (fun r => h r i * a (n0 + r)) + k * (b i - mr_sm ct (fun r => h r i * b (n0 + r))) = a i + k * b i - (mr_sm ct (fun r => h r i * a (n0 + r)) + k * mr_sm ct (fun r => h r i * b (n0 + r))) by grind] at this
        exact this
      · rcases hy with ⟨r, hr, rfl⟩ | ⟨j, j1, j2, rfl⟩
        · have e1 : M ∣ mr_sm ct (fun q => h q i * R r (n0 + q)) - mr_sm ct (fun q => h q i * mr_e r 1 q) := by
            have : mr_sm ct (fun q => h q i * R r (n0 + q)) - mr_sm ct (fun q => h q i * mr_e r 1 q) = mr_sm ct (fun q => h q i * (R r (n0 + q) - mr_e r 1 q)) := by
              have e3 := mr_sm_lin (fun q => h q i * R r (n0 + q)) (fun q => h q i * mr_e r 1 q) (-1) ct
              have e4 : mr_sm ct (fun q => h q i * (R r (n0 + q) - mr_e r 1 q)) = mr_sm ct (fun q => h q i * R r (n0 + q) + -1 * (h q i * mr_e r 1 q)) := mr_sm_cg ct (fun q _ => by rw [Int.mul_sub]; omega)
              rw [e4, e3]
              omega
            rw [this]
            exact mr_sm_dvd ct (fun q hq => Int.dvd_mul_of_dvd_right (h2 r hr q hq))
          rw [mr_sm_unit (fun q => h q i) r ct, if_pos hr] at e1
          have := Int.dvd_sub (h1 r hr i hi) e1
          rw [show R r i - h r i - (mr_sm ct (fun q => h q i * R r (n0 + q)) - h r i) = R r i - mr_sm ct (fun q => h q i * R r (n0 + q)) by omega] at this
          exact this
        · have hall : ∀ i : Nat, M ∣ mr_e j M i := fun i => by
            by_cases e : i = j
            · rw [e, mr_e_same]; exact Int.dvd_refl M
            · rw [mr_e_ne _ e]; exact mr_dvd_0 M
          exact Int.dvd_sub (hall i) (mr_sm_dvd ct (fun q _ => Int.dvd_mul_of_dvd_right (hall _)))
    have := key i hi
    rw [mr_sft_lo _ hi, Int.zero_sub, mr_sm_cg (h := fun r => h r i * x r) ct (fun r _ => by rw [mr_sft_hi])] at this
    exact Int.dvd_neg.mp this
  · intro g
    have p1 : mr_Lc M (n0 + ct) ct 0 R (fun j => if j < n0 then mr_sm ct (fun r => h r j * x r) else x (j - n0)) := by
      refine mr_Lat_all (n := ct) (P := fun x : mr_V => mr_Lc M (n0 + ct) ct 0 R (fun j => if j < n0 then mr_sm ct (fun r => h r j * x r) else x (j - n0))) ⟨fun a b e ha => hl.1 _ _ (fun j hj => ?_) ha, hl.1 _ _ (fun j _ => ?_) hl.2.1, fun a b k ha hb => hl.1 _ _ (fun j _ => ?_) (hl.2.2 _ _ k ha hb)⟩ (fun c hc => ?_) ct x (Nat.le_refl ct) (fun j h1 h2 => by omega)
      · by_cases ej : j < n0
        · simp only [if_pos ej]; exact mr_sm_cg ct (fun r hr => by rw [e r hr])
        · simp only [if_neg ej]; exact e _ (by omega)
      · show (0 : Int) = if j < n0 then mr_sm ct (fun r => h r j * 0) else 0
        rw [mr_sm_cg (h := fun _ => 0) ct (fun r _ => by simp), mr_sm_z]
        split <;> rfl
      · show (if j < n0 then mr_sm ct (fun r => h r j * a r) else a (j - n0)) + k * (if j < n0 then mr_sm ct (fun r => h r j * b r) else b (j - n0)) = if j < n0 then mr_sm ct (fun r => h r j * (a r + k * b r)) else a (j - n0) + k * b (j - n0)
        split
        · rw [← mr_sm_lin]; exact mr_sm_cg ct (fun r _ => by rw [Int.mul_add]; grind)
        · rfl
      · refine mr_Lc_row hc (fun j hj => ?_)
        show M ∣ (if j < n0 then mr_sm ct (fun r => h r j * mr_e c 1 r) else mr_e c 1 (j - n0)) - R c j
        by_cases ej : j < n0
        · rw [if_pos ej, mr_sm_unit (fun r => h r j) c ct, if_pos hc]; exact mr_dvd_sym (h1 c hc j ej)
        · rw [if_neg ej]
          have := h2 c hc (j - n0) (by omega)
          rw [show n0 + (j - n0) = j by omega] at this
          exact mr_dvd_sym this
    refine mr_Lat_mod hl (fun _ h => mr_Lc_e h) (fun j hj => ?_) p1
    unfold mr_sft
    by_cases ej : j < n0
    · rw [if_pos ej, if_pos ej, Int.zero_sub]; exact Int.dvd_neg.mpr (g j ej)
    · rw [if_neg ej, if_neg ej]; exact mr_dvd_same _ _
