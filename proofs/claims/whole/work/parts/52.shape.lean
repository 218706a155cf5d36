/-- a row whose lead is 0 stands for m at its place -/
def mr_hat (m : Int) (F : Nat → mr_V) : Nat → mr_V := fun c => if 0 < F c c then F c else mr_e c m
theorem mr_hat_pos {m : Int} {F : Nat → mr_V} {c : Nat} (h : 0 < F c c) : mr_hat m F c = F c := if_pos h
theorem mr_hat_neg {m : Int} {F : Nat → mr_V} {c : Nat} (h : ¬ 0 < F c c) : mr_hat m F c = mr_e c m := if_neg h
/-- rows in steps -/
def mr_B1 (m : Int) (n c : Nat) (g : mr_V) : Prop := (∀ j, j < n → 0 ≤ g j ∧ g j < m) ∧ (∀ j, j < c → g j = 0) ∧ (g c = 0 → ∀ j, j < n → g j = 0)
def mr_T0 (m : Int) (n a : Nat) (L : mr_V → Prop) (F : Nat → mr_V) : Prop := ∀ c, a ≤ c → c < n → L (mr_hat m F c) ∧ mr_B1 m n c (F c) ∧ ∀ x : mr_V, L x → (∀ j, j < c → x j = 0) → mr_hat m F c c ∣ x c
theorem mr_hat_lead {m : Int} (hm : 1 ≤ m) {n : Nat} {F : Nat → mr_V} {c : Nat} (hc : c < n) (h : mr_B1 m n c (F c)) : 1 ≤ mr_hat m F c c ∧ (∀ j, j < c → mr_hat m F c j = 0) ∧ mr_hat m F c c ≤ m := by
  by_cases h0 : 0 < F c c
  · rw [mr_hat_pos h0]
    exact ⟨h0, h.2.1, by have := (h.1 c hc).2; omega⟩
  · rw [mr_hat_neg h0, mr_e_same]
    exact ⟨hm, fun j hj => mr_e_ne _ (by omega), Int.le_refl m⟩
theorem mr_s1_ok {m : Int} (hm : 1 ≤ m ∧ m ≤ 30) {n ct : Nat} : ∀ (k c : Nat) (R F : Nat → mr_V), c + k = n → (∀ r, r < ct → mr_RI m n c (R r)) → (∀ r, r < c → (mr_s1 m n ct k c R F).2 r = F r) ∧ mr_T0 m n c (mr_Lc m n ct c R) (mr_s1 m n ct k c R F).2
  | 0, c, R, F, hk, hR => ⟨fun r _ => rfl, fun c' h1 h2 => by omega⟩
  | k + 1, c, R, F, hk, hR => by
    obtain ⟨s1, s2, s3, s4⟩ := mr_s1c_ok hm (show c < n by omega) hR
    have hc : c < n := by omega
    have e1 : mr_s1 m n ct (k + 1) c R F = mr_s1 m n ct k ((c + 1 : Nat) : Int) (mr_s1c m n ct c R).2 (mr_Rw F c (mr_fs (mr_s1c m n ct c R).1 c ((mr_s1c m n ct c R).1 c % m))) := by
      show mr_s1 m n ct k ((c : Int) + 1) (mr_s1c m n ct c R).2 (mr_Rw F (c : Int).toNat (mr_fs (mr_s1c m n ct c R).1 (c : Int).toNat ((mr_s1c m n ct c R).1 (c : Int).toNat % m))) = _
      rw [Int.toNat_natCast, Int.natCast_add]
      rfl
    rw [e1]
    generalize hT : (mr_s1c m n ct c R).1 = T at *
    generalize hR2 : (mr_s1c m n ct c R).2 = R2 at *
    obtain ⟨i1, i2⟩ := mr_s1_ok hm k (c + 1) R2 (mr_Rw F c (mr_fs T c (T c % m))) (by omega) s2
    generalize mr_s1 m n ct k ((c + 1 : Nat) : Int) R2 (mr_Rw F c (mr_fs T c (T c % m))) = Z at *
    have ec : Z.2 c = mr_fs T c (T c % m) := by rw [i1 c (by omega), mr_Rw_same]
    obtain ⟨t1, t2, t3, t4, t5⟩ := s1
    have hl := mr_Lc_lat m n ct c R
    have hsub : ∀ x, mr_Lc m n ct (c + 1) R2 x → mr_Lc m n ct c R x := fun x hx => (s4 x).mpr ⟨0, (mr_Lc_lat _ _ _ _ _).1 x _ (fun j _ => by show x j = x j + -0 * T j; simp) hx⟩
    have hk0 : ∀ (x : mr_V) (q : Int), mr_Lc m n ct (c + 1) R2 (fun j => x j + -q * T j) → x c = q * T c := fun x q hq => by
      have := mr_Lc_zero s2 hq c (by omega) hc
      have h9 : x c + -q * T c = 0 := this
      rw [Int.neg_mul] at h9
      omega
    refine ⟨fun r hr => by rw [i1 r (by omega), mr_Rw_ne _ _ (by omega)], fun c' h1 h2 => ?_⟩
    by_cases e : c' = c
    · subst e
      by_cases hlt : T c' < m
      · have hmod : T c' % m = T c' := Int.emod_eq_of_lt (by omega) hlt
        have hZ : Z.2 c' = T := by
          rw [ec, hmod]
          funext j
          unfold mr_fs
          split
          · rename_i h; rw [h]
          · rfl
        have hpos : 0 < Z.2 c' c' := by rw [hZ]; omega
        rw [mr_hat_pos hpos, hZ]
        refine ⟨s3, ⟨fun j hj => ?_, t1, fun z => by omega⟩, fun x hx _ => ?_⟩
        · by_cases ej : j = c'
          · subst ej; omega
          · exact t2 j hj ej
        · obtain ⟨q, hq⟩ := (s4 x).mp hx
          exact ⟨q, by rw [hk0 x q hq, Int.mul_comm]⟩
      · have hTm : T c' = m := by omega
        have hz := t5 hTm
        have hZ0 : ∀ j, j < n → Z.2 c' j = 0 := fun j hj => by
          rw [ec, hTm, Int.emod_self]
          unfold mr_fs
          split
          · rfl
          · rename_i h; exact hz j hj h
        have hn : ¬ 0 < Z.2 c' c' := by rw [hZ0 c' h2]; decide
        rw [mr_hat_neg hn]
        refine ⟨mr_Sp_gen (Or.inr ⟨c', Nat.le_refl _, h2, rfl⟩), ⟨fun j hj => by rw [hZ0 j hj]; omega, fun j hj => hZ0 j (by omega), fun _ => hZ0⟩, fun x hx _ => ?_⟩
        obtain ⟨q, hq⟩ := (s4 x).mp hx
        rw [mr_e_same]
        exact ⟨q, by rw [hk0 x q hq, hTm, Int.mul_comm]⟩
    · obtain ⟨a1, a2, a3⟩ := i2 c' (by omega) h2
      refine ⟨hsub _ a1, a2, fun x hx hz => ?_⟩
      obtain ⟨q, hq⟩ := (s4 x).mp hx
      have h8 := hk0 x q hq
      rw [hz c (by omega)] at h8
      have hq0 : q = 0 := by
        rcases Int.mul_eq_zero.mp h8.symm with h | h
        · exact h
        · omega
      subst hq0
      exact a3 x ((mr_Lc_lat _ _ _ _ _).1 _ x (fun j _ => by show x j + -0 * T j = x j; simp) hq) hz
/-- one row tidied by another one -/
theorem mr_td_ok {m : Int} (hm : 1 ≤ m) {n c o : Nat} {L : mr_V → Prop} (hL : mr_Lat n L) (hM : ∀ j, j < n → L (mr_e j m)) {F : Nat → mr_V} (hco : c < o) (ho : o < n) (hF : L (mr_hat m F o) ∧ mr_B1 m n o (F o)) {g : mr_V} (hg : mr_B1 m n c g) (hgL : L g) :
    mr_B1 m n c (mr_td m n (F o) o g) ∧ L (mr_td m n (F o) o g) ∧ (∀ j, j < o → mr_td m n (F o) o g j = g j) ∧ mr_td m n (F o) o g o < mr_hat m F o o := by
  obtain ⟨fo1, fo2⟩ := hF
  unfold mr_td
  rw [Int.toNat_natCast]
  by_cases h0 : 0 < F o o ∧ F o o ≤ g o
  · rw [if_pos h0]
    rw [mr_hat_pos h0.1] at fo1 ⊢
    have el : ∀ j, j < o → mr_tu m o n (m - g o / F o o) (F o) g j = g j := fun j hj => by
      unfold mr_tu
      rw [if_neg (by omega)]
    have eh : ∀ j, o ≤ j → j < n → mr_tu m o n (m - g o / F o o) (F o) g j = (g j + (m - g o / F o o) * F o j) % m := fun j h1 h2 => by
      unfold mr_tu
      rw [if_pos ⟨by omega, by omega⟩]
    have hdm : ∀ j, (g j + (m - g o / F o o) * F o j) % m = (g j + -(g o / F o o) * F o j) % m := fun j => by
      rw [show g j + (m - g o / F o o) * F o j = g j + -(g o / F o o) * F o j + m * F o j by grind]
      exact Int.add_mul_emod_self_left _ _ _
    have hr := Int.emod_nonneg (g o) (show F o o ≠ 0 by omega)
    have hr2 := Int.emod_lt_of_pos (g o) h0.1
    have eo : mr_tu m o n (m - g o / F o o) (F o) g o = g o % F o o := by
      rw [eh o (Nat.le_refl o) ho, hdm]
      have : g o + -(g o / F o o) * F o o = g o % F o o := by
        have := Int.emod_add_mul_ediv (g o) (F o o)
        grind
      rw [this]
      exact Int.emod_eq_of_lt hr (by have := (fo2.1 o ho).2; omega)
    refine ⟨⟨fun j hj => ?_, fun j hj => by rw [el j (by omega)]; exact hg.2.1 j hj, fun z => ?_⟩, ?_, el, by rw [eo]; exact hr2⟩
    · by_cases h1 : o ≤ j
      · rw [eh j h1 hj]
        exact ⟨Int.emod_nonneg _ (by omega), Int.emod_lt_of_pos _ (by omega)⟩
      · rw [el j (by omega)]; exact hg.1 j hj
    · rw [el c hco] at z
      have := hg.2.2 z o ho
      omega
    · refine mr_Lat_mod hL hM (x := fun j => g j + -(g o / F o o) * F o j) (fun j hj => ?_) (hL.2.2 g _ _ hgL fo1)
      by_cases h1 : o ≤ j
      · rw [eh j h1 hj, hdm]
        exact mr_dvd_self_emod _ _
      · rw [el j (by omega), fo2.2.1 j (by omega)]
        simp
  · rw [if_neg h0]
    refine ⟨hg, hgL, fun _ _ => rfl, ?_⟩
    by_cases h1 : 0 < F o o
    · rw [mr_hat_pos h1]; omega
    · rw [mr_hat_neg h1, mr_e_same]
      exact (hg.1 o ho).2
theorem mr_tl_ok {m : Int} (hm : 1 ≤ m) {n c : Nat} {L : mr_V → Prop} (hL : mr_Lat n L) (hM : ∀ j, j < n → L (mr_e j m)) {F : Nat → mr_V} : ∀ (k o : Nat) (g : mr_V), o + k = n → c < o → (∀ q, o ≤ q → q < n → L (mr_hat m F q) ∧ mr_B1 m n q (F q)) → mr_B1 m n c g → L g →
    mr_B1 m n c (mr_tl m n F k o g) ∧ L (mr_tl m n F k o g) ∧ (∀ j, j < o → mr_tl m n F k o g j = g j) ∧ ∀ j, o ≤ j → j < n → mr_tl m n F k o g j < mr_hat m F j j
  | 0, o, g, hk, hco, hF, hg, hgL => ⟨hg, hgL, fun _ _ => rfl, fun j h1 h2 => by omega⟩
  | k + 1, o, g, hk, hco, hF, hg, hgL => by
    obtain ⟨d1, d2, d3, d4⟩ := mr_td_ok hm hL hM hco (show o < n by omega) (hF o (Nat.le_refl o) (by omega)) hg hgL
    have e1 : mr_tl m n F (k + 1) o g = mr_tl m n F k ((o + 1 : Nat) : Int) (mr_td m n (F o) o g) := by
      show mr_tl m n F k ((o : Int) + 1) (mr_td m n (F (o : Int).toNat) o g) = _
      rw [Int.toNat_natCast, Int.natCast_add]
      rfl
    rw [e1]
    obtain ⟨i1, i2, i3, i4⟩ := mr_tl_ok hm hL hM k (o + 1) (mr_td m n (F o) o g) (by omega) (by omega) (fun q h1 h2 => hF q (by omega) h2) d1 d2
    refine ⟨i1, i2, fun j hj => by rw [i3 j (by omega), d3 j hj], fun j h1 h2 => ?_⟩
    by_cases e : j = o
    · subst e; rw [i3 j (by omega)]; exact d4
    · exact i4 j (by omega) h2
/-- all rows tidied -/
def mr_T2 (m : Int) (n a : Nat) (F : Nat → mr_V) : Prop := ∀ c, c < a → ∀ j, c < j → j < n → F c j < mr_hat m F j j
theorem mr_t1_ok {m : Int} (hm : 1 ≤ m) {n : Nat} {L : mr_V → Prop} (hL : mr_Lat n L) (hM : ∀ j, j < n → L (mr_e j m)) : ∀ (k c : Nat) (F : Nat → mr_V), c + k = n → mr_T0 m n 0 L F → mr_T2 m n c F → mr_T0 m n 0 L (mr_t1 m n k c F) ∧ mr_T2 m n n (mr_t1 m n k c F)
  | 0, c, F, hk, h0, h2 => ⟨h0, by rw [show n = c by omega]; rw [show n = c by omega] at h2; exact h2⟩
  | k + 1, c, F, hk, h0, h2 => by
    have hc : c < n := by omega
    have e1 : mr_t1 m n (k + 1) c F = mr_t1 m n k ((c + 1 : Nat) : Int) (mr_ty m n F c) := by
      show mr_t1 m n k ((c : Int) + 1) (mr_ty m n F c) = _
      rw [Int.natCast_add]
      rfl
    rw [e1]
    have ety : mr_ty m n F c = mr_Rw F c (mr_tl m n F (n - (c + 1)) ((c + 1 : Nat) : Int) (F c)) := by
      unfold mr_ty
      rw [Int.toNat_natCast, show ((n : Int) - c - 1).toNat = n - (c + 1) by omega, Int.natCast_add]
      rfl
    obtain ⟨a1, a2, a3⟩ := h0 c (Nat.zero_le c) hc
    have hFL : L (F c) := by
      by_cases hp : 0 < F c c
      · rw [mr_hat_pos hp] at a1; exact a1
      · have := a2.2.2 (by have := (a2.1 c hc).1; omega)
        exact mr_H_zero hL this
    obtain ⟨i1, i2, i3, i4⟩ := mr_tl_ok hm hL hM (n - (c + 1)) (c + 1) (F c) (by omega) (by omega) (fun q h1 h3 => ⟨(h0 q (Nat.zero_le q) h3).1, (h0 q (Nat.zero_le q) h3).2.1⟩) a2 hFL
    generalize mr_tl m n F (n - (c + 1)) ((c + 1 : Nat) : Int) (F c) = g at *
    have hgc := i3 c (by omega)
    have ehat : ∀ q, mr_hat m (mr_Rw F c g) q q = mr_hat m F q q := fun q => by
      by_cases e : q = c
      · subst e
        unfold mr_hat
        rw [mr_Rw_same, hgc]
        split
        · exact hgc
        · rfl
      · unfold mr_hat
        rw [mr_Rw_ne _ _ e]
    refine mr_t1_ok hm hL hM k (c + 1) (mr_ty m n F c) (by omega) ?_ ?_
    · rw [ety]
      intro c' h1 h3
      by_cases e : c' = c
      · subst e
        have e3 := ehat c'
        refine ⟨?_, by rw [mr_Rw_same]; exact i1, fun x hx hz => by rw [e3]; exact a3 x hx hz⟩
        unfold mr_hat
        rw [mr_Rw_same]
        split
        · exact i2
        · exact hM c' h3
      · have e3 := ehat c'
        obtain ⟨b1, b2, b3⟩ := h0 c' h1 h3
        refine ⟨?_, by rw [mr_Rw_ne _ _ e]; exact b2, fun x hx hz => by rw [e3]; exact b3 x hx hz⟩
        have : mr_hat m (mr_Rw F c g) c' = mr_hat m F c' := by unfold mr_hat; rw [mr_Rw_ne _ _ e]
        rw [this]; exact b1
    · rw [ety]
      intro c' h1 j h3 h4
      rw [ehat j]
      by_cases e : c' = c
      · subst e
        rw [mr_Rw_same]
        exact i4 j (by omega) h4
      · rw [mr_Rw_ne _ _ e]
        exact h2 c' (by omega) j h3 h4
/-- what the shaper makes is the form of what the rows make -/
theorem mr_shp_H {m : Int} (hm : 1 ≤ m ∧ m ≤ 30) {n ct : Nat} {R F0 : Nat → mr_V} (hR : ∀ r, r < ct → ∀ j, j < n → 0 ≤ R r j ∧ R r j < m) : mr_H n (mr_Lc m n ct 0 R) (mr_hat m (mr_shp m n ct R F0)) ∧ ∀ c, c < n → mr_B1 m n c (mr_shp m n ct R F0 c) := by
  have hRI : ∀ r, r < ct → mr_RI m n 0 (R r) := fun r hr => ⟨fun j hj => by omega, hR r hr⟩
  obtain ⟨-, s2⟩ := mr_s1_ok hm n 0 R F0 (by omega) hRI
  have hM : ∀ j, j < n → mr_Lc m n ct 0 R (mr_e j m) := fun j hj => mr_Sp_gen (Or.inr ⟨j, Nat.zero_le j, hj, rfl⟩)
  obtain ⟨t1, t2⟩ := mr_t1_ok hm.1 (mr_Lc_lat m n ct 0 R) hM n 0 (mr_s1 m n ct n 0 R F0).2 (by omega) s2 (fun c hc => by omega)
  have e : mr_shp m n ct R F0 = mr_t1 m n n 0 (mr_s1 m n ct n 0 R F0).2 := by
    unfold mr_shp
    rw [Int.toNat_natCast]
  rw [e]
  refine ⟨fun c hc => ?_, fun c hc => (t1 c (Nat.zero_le c) hc).2.1⟩
  obtain ⟨a1, a2, a3⟩ := t1 c (Nat.zero_le c) hc
  obtain ⟨b1, b2, b3⟩ := mr_hat_lead hm.1 hc a2
  refine ⟨a1, b2, b1, a3, fun j h1 h2 => ?_⟩
  by_cases hp : 0 < mr_t1 m n n 0 (mr_s1 m n ct n 0 R F0).2 c c
  · rw [mr_hat_pos hp]
    exact ⟨(a2.1 j h2).1, t2 c hc j h1 h2⟩
  · rw [mr_hat_neg hp, mr_e_ne _ (by omega)]
    have := (mr_hat_lead hm.1 h2 (t1 j (Nat.zero_le j) h2).2.1).1
    exact ⟨Int.le_refl 0, Int.lt_of_lt_of_le (by decide) this⟩
