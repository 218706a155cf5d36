/-! THE SHAPER makes the form. -/
/-- two rows in a fold at column c -/
def mr_FI (m : Int) (n c : Nat) (T L : mr_V) : Prop := (∀ j, j < c → T j = 0 ∧ L j = 0) ∧ (∀ j, j < n → 0 ≤ L j ∧ L j < m) ∧ (∀ j, j < n → j ≠ c → 0 ≤ T j ∧ T j < m) ∧ 1 ≤ T c ∧ T c ≤ m ∧ (T c = m → ∀ j, j < n → j ≠ c → T j = 0)
/-- lattices that have m behind column c -/
def mr_LB (m : Int) (n c : Nat) (P : mr_V → Prop) : Prop := mr_Lat n P ∧ ∀ j, c < j → j < n → P (mr_e j m)
theorem mr_fstep {m : Int} {n c : Nat} {T L : mr_V} (hc : c < n) (h : mr_FI m n c T L) (hL : 0 < L c) : mr_FI m n c (mr_ft c n T L) (mr_fl m c n (mr_lss m c T L) T L) ∧ mr_fl m c n (mr_lss m c T L) T L c < L c ∧ mr_ft c n T L c = L c ∧ ∀ P, mr_LB m n c P → ((P T ∧ P L) ↔ (P (mr_ft c n T L) ∧ P (mr_fl m c n (mr_lss m c T L) T L))) := by
  obtain ⟨h1, h2, h3, h4, h5, h6⟩ := h
  have hm : 0 < m := by omega
  have eT : ∀ j, j < n → mr_ft c n T L j = L j := fun j hj => by
    unfold mr_ft
    by_cases hjc : c ≤ j
    · rw [if_pos ⟨by omega, by omega⟩]
    · rw [if_neg (by omega), (h1 j (by omega)).1, (h1 j (by omega)).2]
  have eL : ∀ j, c ≤ j → j < n → mr_fl m c n (mr_lss m c T L) T L j = (T j + mr_lss m c T L * L j) % m := fun j h1 hj => by
    unfold mr_fl
    rw [if_pos ⟨by omega, by omega⟩]
  have eL0 : ∀ j, j < c → mr_fl m c n (mr_lss m c T L) T L j = 0 := fun j hj => by
    unfold mr_fl
    rw [if_neg (by omega), (h1 j hj).2]
  have eq : mr_lss m c T L = m - (T c / L c) % m := rfl
  have hdm : ∀ j, m ∣ (T j + mr_lss m c T L * L j) - (T j + -(T c / L c) * L j) := fun j => by
    have := Int.emod_add_mul_ediv (T c / L c) m
    refine ⟨L j * (1 + T c / L c / m), ?_⟩
    rw [eq]
    have e2 : (T c / L c) % m = T c / L c - m * (T c / L c / m) := by omega
    rw [e2]
    grind
  have hr := Int.emod_nonneg (T c) (show L c ≠ 0 by omega)
  have hr2 := Int.emod_lt_of_pos (T c) hL
  have hTc : T c + -(T c / L c) * L c = T c % L c := by
    have := Int.emod_add_mul_ediv (T c) (L c)
    grind
  have ec : mr_fl m c n (mr_lss m c T L) T L c = T c % L c := by
    rw [eL c (Nat.le_refl c) hc]
    have h7 := hdm c
    rw [hTc] at h7
    have h8 := h2 c hc
    have h9 := Int.emod_emod_of_dvd (T c + mr_lss m c T L * L c - T c % L c) (Int.dvd_refl m)
    have : (T c + mr_lss m c T L * L c) % m = (T c % L c) % m := (Int.emod_eq_emod_iff_emod_sub_eq_zero).mpr (Int.emod_eq_zero_of_dvd h7)
    rw [this, Int.emod_eq_of_lt hr (by omega)]
  have hLb : ∀ j, j < n → 0 ≤ mr_fl m c n (mr_lss m c T L) T L j ∧ mr_fl m c n (mr_lss m c T L) T L j < m := fun j hj => by
    by_cases hjc : c ≤ j
    · rw [eL j hjc hj]
      exact ⟨Int.emod_nonneg _ (by omega), Int.emod_lt_of_pos _ hm⟩
    · rw [eL0 j (by omega)]; omega
  refine ⟨⟨fun j hj => ⟨by rw [eT j (by omega)]; exact (h1 j hj).2, eL0 j hj⟩, hLb, fun j hj _ => by rw [eT j hj]; exact h2 j hj, by rw [eT c hc]; omega, by rw [eT c hc]; have := (h2 c hc).2; omega, fun z => by rw [eT c hc] at z; have := (h2 c hc).2; omega⟩, by rw [ec]; exact hr2, eT c hc, fun P hP => ⟨fun ⟨pT, pL⟩ => ⟨?_, ?_⟩, fun ⟨pT, pL⟩ => ?_⟩⟩
  · exact hP.1.1 L _ (fun j hj => (eT j hj).symm) pL
  · refine mr_Lat_modN hP.1 (M := m) (a := c + 1) (fun j g1 g2 => hP.2 j (by omega) g2) n (fun j => T j + -(T c / L c) * L j) _ (Nat.le_refl n) (fun j hj hja => ?_) (fun j hja hj => ?_) (hP.1.2.2 T L _ pT pL)
    · by_cases e : j = c
      · subst e
        show T j + -(T j / L j) * L j = _
        rw [ec, hTc]
      · show T j + -(T c / L c) * L j = _
        rw [eL0 j (by omega), (h1 j (by omega)).1, (h1 j (by omega)).2]
        omega
    · rw [eL j (by omega) hj]
      have g1 := hdm j
      have g2 := mr_dvd_self_emod m (T j + mr_lss m c T L * L j)
      have := Int.dvd_add g2 g1
      rw [show (T j + mr_lss m c T L * L j) % m - (T j + mr_lss m c T L * L j) + (T j + mr_lss m c T L * L j - (T j + -(T c / L c) * L j)) = (T j + mr_lss m c T L * L j) % m - (T j + -(T c / L c) * L j) by omega] at this
      exact this
  · have pL0 : P L := hP.1.1 _ L eT pT
    refine ⟨?_, pL0⟩
    refine mr_Lat_modN hP.1 (M := m) (a := c + 1) (fun j g1 g2 => hP.2 j (by omega) g2) n (fun j => mr_fl m c n (mr_lss m c T L) T L j + (T c / L c) * L j) T (Nat.le_refl n) (fun j hj hja => ?_) (fun j hja hj => ?_) (hP.1.2.2 _ L _ pL pL0)
    · by_cases e : j = c
      · subst e
        show mr_fl m j n (mr_lss m j T L) T L j + (T j / L j) * L j = T j
        rw [ec]
        have := hTc
        rw [Int.neg_mul] at this
        omega
      · show mr_fl m c n (mr_lss m c T L) T L j + (T c / L c) * L j = T j
        rw [eL0 j (by omega), (h1 j (by omega)).1, (h1 j (by omega)).2]
        omega
    · show m ∣ T j - (mr_fl m c n (mr_lss m c T L) T L j + (T c / L c) * L j)
      rw [eL j (by omega) hj]
      have g1 := hdm j
      have g2 := mr_dvd_self_emod m (T j + mr_lss m c T L * L j)
      have := Int.dvd_neg.mpr (Int.dvd_add g2 g1)
      rw [show -((T j + mr_lss m c T L * L j) % m - (T j + mr_lss m c T L * L j) + (T j + mr_lss m c T L * L j - (T j + -(T c / L c) * L j))) = T j - ((T j + mr_lss m c T L * L j) % m + (T c / L c) * L j) by rw [Int.neg_mul]; omega] at this
      exact this
theorem mr_fol_ok {m : Int} {n c : Nat} (hc : c < n) : ∀ (k : Nat) (T L : mr_V), mr_FI m n c T L → L c < k → mr_FI m n c (mr_fol m c n k T L).1 (mr_fol m c n k T L).2 ∧ (mr_fol m c n k T L).2 c = 0 ∧ ∀ P, mr_LB m n c P → ((P T ∧ P L) ↔ (P (mr_fol m c n k T L).1 ∧ P (mr_fol m c n k T L).2))
  | 0, T, L, h, hk => by have := (h.2.1 c hc).1; omega
  | k + 1, T, L, h, hk => by
    unfold mr_fol
    by_cases h0 : 0 < L c
    · have e : 0 < L (c : Int).toNat := by simpa using h0
      rw [if_pos e]
      obtain ⟨s1, s2, s3, s4⟩ := mr_fstep hc h h0
      obtain ⟨i1, i2, i3⟩ := mr_fol_ok hc k _ _ s1 (by omega)
      exact ⟨i1, i2, fun P hP => (s4 P hP).trans (i3 P hP)⟩
    · have e : ¬ 0 < L (c : Int).toNat := by simpa using h0
      rw [if_neg e]
      have := (h.2.1 c hc).1
      exact ⟨h, by show L c = 0; omega, fun P hP => Iff.rfl⟩
/-- the rows of a table, at column c -/
def mr_RI (m : Int) (n c : Nat) (L : mr_V) : Prop := (∀ j, j < c → L j = 0) ∧ ∀ j, j < n → 0 ≤ L j ∧ L j < m
def mr_TI (m : Int) (n c : Nat) (T : mr_V) : Prop := (∀ j, j < c → T j = 0) ∧ (∀ j, j < n → j ≠ c → 0 ≤ T j ∧ T j < m) ∧ 1 ≤ T c ∧ T c ≤ m ∧ (T c = m → ∀ j, j < n → j ≠ c → T j = 0)
theorem mr_FI_of {m : Int} {n c : Nat} {T L : mr_V} (hT : mr_TI m n c T) (hL : mr_RI m n c L) : mr_FI m n c T L := ⟨fun j hj => ⟨hT.1 j hj, hL.1 j hj⟩, hL.2, hT.2.1, hT.2.2.1, hT.2.2.2.1, hT.2.2.2.2⟩
theorem mr_FI_T {m : Int} {n c : Nat} {T L : mr_V} (h : mr_FI m n c T L) : mr_TI m n c T := ⟨fun j hj => (h.1 j hj).1, h.2.2.1, h.2.2.2.1, h.2.2.2.2.1, h.2.2.2.2.2⟩
theorem mr_FI_L {m : Int} {n c : Nat} {T L : mr_V} (h : mr_FI m n c T L) : mr_RI m n c L := ⟨fun j hj => (h.1 j hj).2, h.2.1⟩
theorem mr_fi_ok {m : Int} (hm : m ≤ 30) {n c : Nat} (hc : c < n) : ∀ (k : Nat) (i : Nat) (T : mr_V) (R : Nat → mr_V), mr_TI m n c T → (∀ r, i ≤ r → r < i + k → mr_RI m n c (R r)) → mr_TI m n c (mr_fi m c n k i T R).1 ∧ (∀ r, i ≤ r → r < i + k → mr_RI m n c ((mr_fi m c n k i T R).2 r) ∧ (mr_fi m c n k i T R).2 r c = 0) ∧ (∀ r, r < i ∨ i + k ≤ r → (mr_fi m c n k i T R).2 r = R r) ∧ ∀ P, mr_LB m n c P → ((P T ∧ ∀ r, i ≤ r → r < i + k → P (R r)) ↔ (P (mr_fi m c n k i T R).1 ∧ ∀ r, i ≤ r → r < i + k → P ((mr_fi m c n k i T R).2 r)))
  | 0, i, T, R, hT, hR => ⟨hT, fun r h1 h2 => by omega, fun r _ => rfl, fun P hP => Iff.rfl⟩
  | k + 1, i, T, R, hT, hR => by
    have hi := hR i (Nat.le_refl i) (by omega)
    have hb := (hi.2 c hc).2
    obtain ⟨f1, f2, f3⟩ := mr_fol_ok hc 40 T (R i) (mr_FI_of hT hi) (by omega)
    have e1 : mr_fi m c n (k + 1) i T R = mr_fi m c n k ((i + 1 : Nat) : Int) (mr_fol m c n 40 T (R i)).1 (mr_Rw R i (mr_fol m c n 40 T (R i)).2) := by
      show mr_fi m c n k ((i : Int) + 1) (mr_fol m c n 40 T (R (i : Int).toNat)).1 (mr_Rw R (i : Int).toNat (mr_fol m c n 40 T (R (i : Int).toNat)).2) = _
      rw [Int.toNat_natCast, Int.natCast_add]
      rfl
    rw [e1]
    obtain ⟨g1, g2, g3, g4⟩ := mr_fi_ok hm hc k (i + 1) (mr_fol m c n 40 T (R i)).1 (mr_Rw R i (mr_fol m c n 40 T (R i)).2) (mr_FI_T f1) (fun r h1 h2 => by rw [mr_Rw_ne _ _ (by omega)]; exact hR r (by omega) (by omega))
    have ei := g3 i (Or.inl (by omega))
    rw [mr_Rw_same] at ei
    refine ⟨g1, fun r h1 h2 => ?_, fun r h1 => ?_, fun P hP => ?_⟩
    · by_cases e : r = i
      · subst e; rw [ei]; exact ⟨mr_FI_L f1, f2⟩
      · exact g2 r (by omega) (by omega)
    · rw [g3 r (by omega), mr_Rw_ne _ _ (by omega)]
    · refine Iff.trans ?_ (Iff.trans (and_congr_right fun _ => ?_ : (P (mr_fol m c n 40 T (R i)).1 ∧ ((P (mr_fol m c n 40 T (R i)).2) ∧ ∀ r, i + 1 ≤ r → r < i + 1 + k → P (mr_Rw R i (mr_fol m c n 40 T (R i)).2 r))) ↔ (P (mr_fol m c n 40 T (R i)).1 ∧ ((P (mr_fol m c n 40 T (R i)).2) ∧ ∀ r, i + 1 ≤ r → r < i + 1 + k → P (mr_Rw R i (mr_fol m c n 40 T (R i)).2 r)))) ?_)
      · constructor
        · rintro ⟨pT, pR⟩
          have := (f3 P hP).mp ⟨pT, pR i (Nat.le_refl i) (by omega)⟩
          exact ⟨this.1, this.2, fun r h1 h2 => by rw [mr_Rw_ne _ _ (by omega)]; exact pR r (by omega) (by omega)⟩
        · rintro ⟨p1, p2, p3⟩
          have := (f3 P hP).mpr ⟨p1, p2⟩
          refine ⟨this.1, fun r h1 h2 => ?_⟩
          by_cases e : r = i
          · subst e; exact this.2
          · have := p3 r (by omega) (by omega)
            rw [mr_Rw_ne _ _ e] at this
            exact this
      · exact Iff.rfl
      · constructor
        · rintro ⟨p1, p2, p3⟩
          have := (g4 P hP).mp ⟨p1, p3⟩
          refine ⟨this.1, fun r h1 h2 => ?_⟩
          by_cases e : r = i
          · subst e; rw [ei]; exact p2
          · exact this.2 r (by omega) (by omega)
        · rintro ⟨p1, p2⟩
          have := (g4 P hP).mpr ⟨p1, fun r h1 h2 => p2 r (by omega) (by omega)⟩
          have h9 := p2 i (Nat.le_refl i) (by omega)
          rw [ei] at h9
          exact ⟨this.1, h9, this.2⟩
/-- what the rows and m behind a column make -/
def mr_Gc (m : Int) (n ct c : Nat) (R : Nat → mr_V) (y : mr_V) : Prop := (∃ r, r < ct ∧ y = R r) ∨ ∃ j, c ≤ j ∧ j < n ∧ y = mr_e j m
def mr_Lc (m : Int) (n ct c : Nat) (R : Nat → mr_V) : mr_V → Prop := mr_Sp n (mr_Gc m n ct c R)
theorem mr_Lc_lat (m : Int) (n ct c : Nat) (R : Nat → mr_V) : mr_Lat n (mr_Lc m n ct c R) := mr_Sp_lat n _
theorem mr_Lc_zero {m : Int} {n ct c : Nat} {R : Nat → mr_V} (hR : ∀ r, r < ct → mr_RI m n c (R r)) {x : mr_V} (hx : mr_Lc m n ct c R x) : ∀ j, j < c → j < n → x j = 0 := by
  refine mr_Sp_le (P := fun x : mr_V => ∀ j, j < c → j < n → x j = 0) ⟨fun a b h ha j h1 h2 => by rw [← h j h2]; exact ha j h1 h2, fun j _ _ => rfl, fun a b k ha hb j h1 h2 => by show a j + k * b j = 0; rw [ha j h1 h2, hb j h1 h2]; simp⟩ (fun y hy => ?_) hx
  rcases hy with ⟨r, hr, rfl⟩ | ⟨j0, h1, h2, rfl⟩
  · exact fun j h1 _ => (hR r hr).1 j h1
  · exact fun j h3 _ => mr_e_ne _ (by omega)
theorem mr_s1c_ok {m : Int} (hm : 1 ≤ m ∧ m ≤ 30) {n c ct : Nat} (hc : c < n) {R : Nat → mr_V} (hR : ∀ r, r < ct → mr_RI m n c (R r)) : mr_TI m n c (mr_s1c m n ct c R).1 ∧ (∀ r, r < ct → mr_RI m n (c + 1) ((mr_s1c m n ct c R).2 r)) ∧ mr_Lc m n ct c R (mr_s1c m n ct c R).1 ∧ ∀ x, mr_Lc m n ct c R x ↔ ∃ k : Int, mr_Lc m n ct (c + 1) (mr_s1c m n ct c R).2 (fun j => x j + -k * (mr_s1c m n ct c R).1 j) := by
  have eT : mr_fs (fun _ => 0) (c : Int).toNat m = mr_e c m := by
    funext j
    rw [Int.toNat_natCast]
    rfl
  have hT0 : mr_TI m n c (mr_e c m) := ⟨fun j hj => mr_e_ne _ (by omega), fun j hj hne => by rw [mr_e_ne _ hne]; omega, by rw [mr_e_same]; omega, by rw [mr_e_same]; omega, fun _ j hj hne => mr_e_ne _ hne⟩
  obtain ⟨g1, g2, g3, g4⟩ := mr_fi_ok hm.2 hc ct 0 (mr_e c m) R hT0 (fun r _ h2 => hR r (by omega))
  have e1 : mr_s1c m n ct c R = mr_fi m c n ct ((0 : Nat) : Int) (mr_e c m) R := by
    unfold mr_s1c
    rw [eT, Int.toNat_natCast]
    rfl
  rw [e1]
  generalize hT : (mr_fi m c n ct ((0 : Nat) : Int) (mr_e c m) R).1 = T at *
  generalize hR2 : (mr_fi m c n ct ((0 : Nat) : Int) (mr_e c m) R).2 = R2 at *
  have hRI : ∀ r, r < ct → mr_RI m n (c + 1) (R2 r) := fun r hr => by
    obtain ⟨a, b⟩ := g2 r (Nat.zero_le r) (by omega)
    refine ⟨fun j hj => ?_, a.2⟩
    by_cases e : j = c
    · subst e; exact b
    · exact a.1 j (by omega)
  have hLB : mr_LB m n c (mr_Lc m n ct c R) := ⟨mr_Lc_lat _ _ _ _ _, fun j h1 h2 => mr_Sp_gen (Or.inr ⟨j, by omega, h2, rfl⟩)⟩
  have hTR := (g4 _ hLB).mp ⟨mr_Sp_gen (Or.inr ⟨c, Nat.le_refl c, hc, rfl⟩), fun r _ h2 => mr_Sp_gen (Or.inl ⟨r, by omega, rfl⟩)⟩
  have hsub : ∀ x, mr_Lc m n ct (c + 1) R2 x → mr_Lc m n ct c R x := fun x hx => mr_Sp_le (mr_Lc_lat _ _ _ _ _) (fun y hy => by
    rcases hy with ⟨r, hr, rfl⟩ | ⟨j, h1, h2, rfl⟩
    · exact hTR.2 r (Nat.zero_le r) (by omega)
    · exact mr_Sp_gen (Or.inr ⟨j, by omega, h2, rfl⟩)) hx
  refine ⟨g1, hRI, hTR.1, fun x => ⟨fun hx => ?_, fun ⟨k, hk⟩ => ?_⟩⟩
  · have hLat : mr_Lat n (fun x : mr_V => ∃ k : Int, mr_Lc m n ct (c + 1) R2 (fun j => x j + -k * T j)) := by
      have hl := mr_Lc_lat m n ct (c + 1) R2
      refine ⟨fun a b h ⟨k, ha⟩ => ⟨k, hl.1 _ _ (fun j hj => by show a j + -k * T j = b j + -k * T j; rw [h j hj]) ha⟩, ⟨0, hl.1 _ _ (fun j _ => by show (0 : Int) = 0 + -0 * T j; simp) hl.2.1⟩, fun a b q ⟨k1, h1⟩ ⟨k2, h2⟩ => ⟨k1 + q * k2, hl.1 _ _ (fun j _ => ?_) (hl.2.2 _ _ q h1 h2)⟩⟩
      show a j + -k1 * T j + q * (b j + -k2 * T j) = a j + q * b j + -(k1 + q * k2) * T j
      grind
    have hLBP : mr_LB m n c (fun x : mr_V => ∃ k : Int, mr_Lc m n ct (c + 1) R2 (fun j => x j + -k * T j)) := ⟨hLat, fun j h1 h2 => ⟨0, (mr_Lc_lat _ _ _ _ _).1 (mr_e j m) _ (fun i _ => by show mr_e j m i = mr_e j m i + -0 * T i; simp) (mr_Sp_gen (Or.inr ⟨j, by omega, h2, rfl⟩))⟩⟩
    have hg := (g4 _ hLBP).mpr ⟨⟨1, (mr_Lc_lat _ _ _ _ _).1 (fun _ => 0) _ (fun i _ => by show (0 : Int) = T i + -1 * T i; omega) (mr_Lc_lat _ _ _ _ _).2.1⟩, fun r _ h2 => ⟨0, (mr_Lc_lat _ _ _ _ _).1 (R2 r) _ (fun i _ => by show R2 r i = R2 r i + -0 * T i; simp) (mr_Sp_gen (Or.inl ⟨r, by omega, rfl⟩))⟩⟩
    refine mr_Sp_le hLat (fun y hy => ?_) hx
    rcases hy with ⟨r, hr, rfl⟩ | ⟨j, h1, h2, rfl⟩
    · exact hg.2 r (Nat.zero_le r) (by omega)
    · by_cases e : j = c
      · subst e; exact hg.1
      · exact hLBP.2 j (by omega) h2
  · have hl := mr_Lc_lat m n ct c R
    refine hl.1 _ _ (fun j _ => ?_) (hl.2.2 _ _ k (hsub _ hk) hTR.1)
    show x j + -k * T j + k * T j = x j
    rw [Int.neg_mul]; omega
