/-! LATTICES of whole rows; only the first n numbers of a row count. -/
abbrev mr_V : Type := Nat → Int
def mr_Lat (n : Nat) (P : mr_V → Prop) : Prop := (∀ x y : mr_V, (∀ j, j < n → x j = y j) → P x → P y) ∧ P (fun _ => 0) ∧ ∀ (x y : mr_V) (k : Int), P x → P y → P (fun j => x j + k * y j)
def mr_Sp (n : Nat) (G : mr_V → Prop) (x : mr_V) : Prop := ∀ P : mr_V → Prop, mr_Lat n P → (∀ y, G y → P y) → P x
theorem mr_Sp_lat (n : Nat) (G : mr_V → Prop) : mr_Lat n (mr_Sp n G) := ⟨fun x y h hx P hP hG => hP.1 x y h (hx P hP hG), fun P hP _ => hP.2.1, fun x y k hx hy P hP hG => hP.2.2 x y k (hx P hP hG) (hy P hP hG)⟩
theorem mr_Sp_gen {n : Nat} {G : mr_V → Prop} {y : mr_V} (h : G y) : mr_Sp n G y := fun _ _ hG => hG y h
theorem mr_Sp_le {n : Nat} {G P : mr_V → Prop} (hP : mr_Lat n P) (h : ∀ y, G y → P y) {x : mr_V} (hx : mr_Sp n G x) : P x := hx P hP h
theorem mr_Sp_mono {n : Nat} {G G' : mr_V → Prop} (h : ∀ y, G y → mr_Sp n G' y) {x : mr_V} (hx : mr_Sp n G x) : mr_Sp n G' x := hx _ (mr_Sp_lat n G') h
theorem mr_Lat_smul {n : Nat} {P : mr_V → Prop} (hP : mr_Lat n P) {y : mr_V} (k : Int) (hy : P y) : P (fun j => k * y j) :=
  hP.1 _ _ (fun j _ => by show 0 + k * y j = k * y j; omega) (hP.2.2 _ y k hP.2.1 hy)
theorem mr_Lat_add {n : Nat} {P : mr_V → Prop} (hP : mr_Lat n P) {x y : mr_V} (hx : P x) (hy : P y) : P (fun j => x j + y j) :=
  hP.1 _ _ (fun j _ => by show x j + 1 * y j = x j + y j; omega) (hP.2.2 x y 1 hx hy)
theorem mr_Lat_sub {n : Nat} {P : mr_V → Prop} (hP : mr_Lat n P) {x y : mr_V} (hx : P x) (hy : P y) : P (fun j => x j - y j) :=
  hP.1 _ _ (fun j _ => by show x j + -1 * y j = x j - y j; omega) (hP.2.2 x y (-1) hx hy)
/-- M at one place -/
def mr_e (c : Nat) (M : Int) : mr_V := fun j => if j = c then M else 0
theorem mr_e_same (c : Nat) (M : Int) : mr_e c M c = M := if_pos rfl
theorem mr_e_ne {c j : Nat} (M : Int) (h : j ≠ c) : mr_e c M j = 0 := if_neg h
/-- a lattice that has M at every place from a on: rows alike modulo M there -/
theorem mr_Lat_modN {n : Nat} {P : mr_V → Prop} (hP : mr_Lat n P) {M : Int} {a : Nat} (hM : ∀ j, a ≤ j → j < n → P (mr_e j M)) : ∀ (k : Nat) (x y : mr_V), k ≤ n → (∀ j, j < n → (j < a ∨ k ≤ j) → x j = y j) → (∀ j, a ≤ j → j < k → M ∣ y j - x j) → P x → P y
  | 0, x, y, _, h, _, hx => hP.1 x y (fun j hj => h j hj (Or.inr (Nat.zero_le j))) hx
  | k + 1, x, y, hk, h, hd, hx => by
    by_cases ha : k < a
    · exact mr_Lat_modN hP hM k x y (by omega) (fun j hj hc => h j hj (by omega)) (fun j h1 h2 => hd j h1 (by omega)) hx
    · obtain ⟨q, hq⟩ := hd k (by omega) (by omega)
      refine mr_Lat_modN hP hM k (fun j => x j + q * mr_e k M j) y (by omega) (fun j hj hc => ?_) (fun j h1 h2 => ?_) (hP.2.2 x _ q hx (hM k (by omega) (by omega)))
      · by_cases e : j = k
        · subst e
          show x j + q * mr_e j M j = y j
          rw [mr_e_same, Int.mul_comm q M]
          omega
        · show x j + q * mr_e k M j = y j
          rw [mr_e_ne _ e, Int.mul_zero, Int.add_zero]
          exact h j hj (by omega)
      · show M ∣ y j - (x j + q * mr_e k M j)
        rw [mr_e_ne _ (by omega), Int.mul_zero, Int.add_zero]
        exact hd j h1 (by omega)
theorem mr_Lat_mod {n : Nat} {P : mr_V → Prop} (hP : mr_Lat n P) {M : Int} (hM : ∀ j, j < n → P (mr_e j M)) {x y : mr_V} (hd : ∀ j, j < n → M ∣ y j - x j) (hx : P x) : P y :=
  mr_Lat_modN hP (a := 0) (fun j _ h => hM j h) n x y (Nat.le_refl n) (fun j h1 h2 => by omega) (fun j _ h => hd j h) hx
theorem mr_dvd_of_emod {M x y : Int} (h : x % M = y % M) : M ∣ x - y := Int.dvd_of_emod_eq_zero (by rw [Int.sub_emod, h, Int.sub_self, Int.zero_emod])
theorem mr_dvd_self_emod (M x : Int) : M ∣ x % M - x := by
  have := Int.emod_add_mul_ediv x M
  exact ⟨-(x / M), by rw [Int.mul_neg]; omega⟩
/-- THE FORM of a lattice -/
def mr_H (n : Nat) (L : mr_V → Prop) (F : Nat → mr_V) : Prop := ∀ c : Nat, c < n → L (F c) ∧ (∀ j, j < c → F c j = 0) ∧ 1 ≤ F c c ∧ (∀ x : mr_V, L x → (∀ j, j < c → x j = 0) → F c c ∣ x c) ∧ ∀ j, c < j → j < n → 0 ≤ F c j ∧ F c j < F j j
theorem mr_dvd_small {d x : Int} (h : d ∣ x) (h1 : -d < x) (h2 : x < d) : x = 0 := by
  obtain ⟨q, hq⟩ := h
  subst hq
  have hd : 0 < d := by omega
  have : q = 0 := by
    rcases Int.lt_trichotomy q 0 with h | h | h
    · have := Int.mul_le_mul_of_nonneg_left (show q ≤ -1 by omega) (show 0 ≤ d by omega)
      omega
    · exact h
    · have := Int.mul_le_mul_of_nonneg_left (show 1 ≤ q by omega) (show 0 ≤ d by omega)
      omega
  rw [this, Int.mul_zero]
theorem mr_H_uniq {n : Nat} {L : mr_V → Prop} {F F' : Nat → mr_V} (hL : mr_Lat n L) (h : mr_H n L F) (h' : mr_H n L F') : ∀ c j : Nat, c < n → j < n → F c j = F' c j := by
  have hd : ∀ c, c < n → F c c = F' c c := fun c hc => by
    obtain ⟨a1, a2, a3, a4, a5⟩ := h c hc
    obtain ⟨b1, b2, b3, b4, b5⟩ := h' c hc
    exact Int.dvd_antisymm (by omega) (by omega) (a4 _ b1 b2) (b4 _ a1 a2)
  intro c j hc
  obtain ⟨a1, a2, a3, a4, a5⟩ := h c hc
  obtain ⟨b1, b2, b3, b4, b5⟩ := h' c hc
  have hD := mr_Lat_sub hL a1 b1
  induction j using Nat.strongRecOn with
  | _ j ih =>
    intro hj
    by_cases h1 : j < c
    · rw [a2 j h1, b2 j h1]
    · by_cases h2 : j = c
      · subst h2; exact hd j hc
      · have g1 := (h j hj).2.2.2.1 _ hD (fun i hi => by show F c i - F' c i = 0; rw [ih i hi (by omega)]; omega)
        have g2 := a5 j (by omega) hj
        have g3 := b5 j (by omega) hj
        have g4 := hd j hj
        have : F c j - F' c j = 0 := mr_dvd_small g1 (by omega) (by omega)
        omega
/-- a row of the lattice less one of the form -/
theorem mr_H_less {n : Nat} {L : mr_V → Prop} {F : Nat → mr_V} (hL : mr_Lat n L) (h : mr_H n L F) {c : Nat} (hc : c < n) (x : mr_V) (k : Int) : L x ↔ L (fun j => x j + k * F c j) :=
  ⟨fun hx => hL.2.2 x _ k hx (h c hc).1, fun hx => hL.1 _ _ (fun j _ => by show x j + k * F c j + -k * F c j = x j; rw [Int.neg_mul]; omega) (hL.2.2 _ _ (-k) hx (h c hc).1)⟩
theorem mr_H_zero {n : Nat} {L : mr_V → Prop} (hL : mr_Lat n L) {x : mr_V} (h0 : ∀ j, j < n → x j = 0) : L x := hL.1 _ _ (fun j hj => (h0 j hj).symm) hL.2.1
/-- a reduced row of the lattice is nought -/
theorem mr_H_red {n : Nat} {L : mr_V → Prop} {F : Nat → mr_V} (h : mr_H n L F) {x : mr_V} (hx : L x) (hr : ∀ j, j < n → 0 ≤ x j ∧ x j < F j j) : ∀ j, j < n → x j = 0 := by
  intro j
  induction j using Nat.strongRecOn with
  | _ j ih =>
    intro hj
    have := (h j hj).2.2.2.1 x hx (fun i hi => ih i hi (by omega))
    have h2 := hr j hj
    exact mr_dvd_small this (by omega) (by omega)
