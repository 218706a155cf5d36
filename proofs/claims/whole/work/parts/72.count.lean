/-- a set below B told one by one -/
def mr_En (B : Nat) (S : Nat → Prop) (n : Nat) (a : Nat → Nat) : Prop := (∀ k, k < n → a k < B ∧ S (a k)) ∧ (∀ r, r < B → S r → ∃ k, k < n ∧ a k = r) ∧ ∀ i k, i < n → k < n → a i = a k → i = k
theorem mr_En_le {B B' n n' : Nat} {S S' : Nat → Prop} {a a' : Nat → Nat} (h : mr_En B S n a) (h' : mr_En B' S' n' a') (g : Nat → Nat) (hg : ∀ r, r < B → S r → g r < B' ∧ S' (g r)) (gi : ∀ r s, r < B → s < B → S r → S s → g r = g s → r = s) : n ≤ n' := by
  have hf : ∀ k : Nat, ∃ j : Nat, k < n → j < n' ∧ a' j = g (a k) := fun k => by
    by_cases hk : k < n
    · obtain ⟨j, hj⟩ := h'.2.1 _ (hg _ (h.1 k hk).1 (h.1 k hk).2).1 (hg _ (h.1 k hk).1 (h.1 k hk).2).2
      exact ⟨j, fun _ => hj⟩
    · exact ⟨0, fun z => absurd z hk⟩
  refine mr_pigeon n' n (fun k => Classical.choose (hf k)) (fun k hk => (Classical.choose_spec (hf k) hk).1) (fun i k hi hk e => ?_)
  have e1 := (Classical.choose_spec (hf i) hi).2
  have e2 := (Classical.choose_spec (hf k) hk).2
  have e0 : Classical.choose (hf i) = Classical.choose (hf k) := e
  have e3 : g (a i) = g (a k) := by rw [← e1, ← e2, e0]
  exact h.2.2 i k hi hk (gi _ _ (h.1 i hi).1 (h.1 k hk).1 (h.1 i hi).2 (h.1 k hk).2 e3)
theorem mr_En_eq {B n n' : Nat} {S S' : Nat → Prop} {a a' : Nat → Nat} (h : mr_En B S n a) (h' : mr_En B S' n' a') (e : ∀ r, r < B → (S r ↔ S' r)) : n = n' := Nat.le_antisymm (mr_En_le h h' id (fun r hr hs => ⟨hr, (e r hr).mp hs⟩) (fun _ _ _ _ _ _ z => z)) (mr_En_le h' h id (fun r hr hs => ⟨hr, (e r hr).mpr hs⟩) (fun _ _ _ _ _ _ z => z))
theorem mr_En_0 (S : Nat → Prop) : mr_En 0 S 0 (fun _ => 0) := ⟨fun k hk => absurd hk (by omega), fun r hr => absurd hr (by omega), fun i k hi => absurd hi (by omega)⟩
theorem mr_En_no {B n : Nat} {S : Nat → Prop} {a : Nat → Nat} (h : mr_En B S n a) (hB : ¬ S B) : mr_En (B + 1) S n a := by
  obtain ⟨h1, h2, h3⟩ := h
  refine ⟨fun k hk => ⟨by have := (h1 k hk).1; omega, (h1 k hk).2⟩, fun r hr hs => ?_, h3⟩
  by_cases er : r = B
  · subst er; exact absurd hs hB
  · exact h2 r (by omega) hs
theorem mr_En_yes {B n : Nat} {S : Nat → Prop} {a : Nat → Nat} (h : mr_En B S n a) (hB : S B) : mr_En (B + 1) S (n + 1) (fun k => if k < n then a k else B) := by
  obtain ⟨h1, h2, h3⟩ := h
  refine ⟨fun k hk => ?_, fun r hr hs => ?_, fun i k hi hk e => ?_⟩
  · show (if k < n then a k else B) < B + 1 ∧ S (if k < n then a k else B)
    by_cases c : k < n
    · rw [if_pos c]; exact ⟨by have := (h1 k c).1; omega, (h1 k c).2⟩
    · rw [if_neg c]; exact ⟨by omega, hB⟩
  · by_cases er : r = B
    · exact ⟨n, by omega, by show (if n < n then a n else B) = r; rw [if_neg (by omega), er]⟩
    · obtain ⟨k, hk, e⟩ := h2 r (by omega) hs
      exact ⟨k, by omega, by show (if k < n then a k else B) = r; rw [if_pos hk, e]⟩
  · have e' : (if i < n then a i else B) = (if k < n then a k else B) := e
    by_cases ci : i < n
    · by_cases ck : k < n
      · rw [if_pos ci, if_pos ck] at e'; exact h3 i k ci ck e'
      · rw [if_pos ci, if_neg ck] at e'; have := (h1 i ci).1; omega
    · by_cases ck : k < n
      · rw [if_neg ci, if_pos ck] at e'; have := (h1 k ck).1; omega
      · omega
theorem mr_En_sm {st : Nat → Int} (h01 : ∀ r : Nat, st r = 0 ∨ st r = 1) : ∀ B : Nat, ∃ (n : Nat) (a : Nat → Nat), mr_En B (fun r => st r = 1) n a ∧ mr_sm B st = n
  | 0 => ⟨0, _, mr_En_0 _, rfl⟩
  | B + 1 => by
    obtain ⟨n, a, h, h4⟩ := mr_En_sm h01 B
    rcases h01 B with e | e
    · exact ⟨n, a, mr_En_no h (fun z => by have z' : st B = 1 := z; omega), by show mr_sm B st + st B = n; omega⟩
    · exact ⟨n + 1, _, mr_En_yes h e, by show mr_sm B st + st B = ((n + 1 : Nat) : Int); omega⟩
theorem mr_En_ex (S : Nat → Prop) : ∀ B : Nat, ∃ (n : Nat) (a : Nat → Nat), mr_En B S n a
  | 0 => ⟨0, _, mr_En_0 _⟩
  | B + 1 => by
    obtain ⟨n, a, h⟩ := mr_En_ex S B
    by_cases e : S B
    · exact ⟨n + 1, _, mr_En_yes h e⟩
    · exact ⟨n, a, mr_En_no h e⟩
theorem mr_Lp_En {M : Int} {st li : Nat → Int} {n : Nat} {S : Int → Prop} (h : mr_Lp M st li n S) : mr_En (M * M * M).toNat (fun r => S r) n (fun k => (li k).toNat) := by
  obtain ⟨h0, h1, h2, h3, h4⟩ := h
  refine ⟨fun k hk => ?_, fun r hr hs => ?_, fun i k hi hk e => ?_⟩
  · have := h2 k hk
    refine ⟨by show (li k).toNat < (M * M * M).toNat; omega, ?_⟩
    show S (((li k).toNat : Nat) : Int)
    rw [Int.toNat_of_nonneg this.1.1]
    exact this.2
  · obtain ⟨k, hk, e⟩ := h3 r (by omega) hs
    exact ⟨k, hk, by show (li k).toNat = r; omega⟩
  · have e' : (li i).toNat = (li k).toNat := e
    have a1 := (h2 i hi).1
    have a2 := (h2 k hk).1
    exact h4 i k hi hk (by omega)
theorem mr_Lp_sm {M : Int} {st li : Nat → Int} {n : Nat} {S : Int → Prop} (h : mr_Lp M st li n S) : mr_sm (M * M * M).toNat st = n := by
  obtain ⟨m, a, h1, h2⟩ := mr_En_sm h.1 (M * M * M).toNat
  rw [h2, mr_En_eq h1 (mr_Lp_En h) (fun r hr => h.2.1 r (by omega))]
theorem mr_sm_nn {st : Nat → Int} (h01 : ∀ r : Nat, st r = 0 ∨ st r = 1) : ∀ k : Nat, 0 ≤ mr_sm k st ∧ mr_sm k st ≤ k
  | 0 => ⟨Int.le_refl 0, Int.le_refl 0⟩
  | k + 1 => by
    have h := mr_sm_nn h01 k
    have h2 := h01 k
    have e : mr_sm (k + 1) st = mr_sm k st + st k := rfl
    omega
theorem mr_sm_mo {st : Nat → Int} (h01 : ∀ r : Nat, st r = 0 ∨ st r = 1) (a : Nat) : ∀ k : Nat, mr_sm a st ≤ mr_sm (a + k) st
  | 0 => Int.le_refl _
  | k + 1 => by
    have h := mr_sm_mo h01 a k
    have h2 := h01 (a + k)
    have e : mr_sm (a + (k + 1)) st = mr_sm (a + k) st + st (a + k) := rfl
    omega
theorem mr_sm_uq {st : Nat → Int} (h01 : ∀ r : Nat, st r = 0 ∨ st r = 1) {a b : Nat} (ha : st a = 1) (hb : st b = 1) (e : mr_sm a st = mr_sm b st) : a = b := by
  have key : ∀ x y : Nat, st x = 1 → x < y → mr_sm x st < mr_sm y st := fun x y hx hy => by
    have h := mr_sm_mo h01 (x + 1) (y - (x + 1))
    rw [show x + 1 + (y - (x + 1)) = y by omega] at h
    have e : mr_sm (x + 1) st = mr_sm x st + st x := rfl
    omega
  rcases Nat.lt_trichotomy a b with h | h | h
  · have := key a b ha h; omega
  · exact h
  · have := key b a hb h; omega
/-- one multiple alone: nought -/
theorem mr_mt1 {M u : Int} (hM : 0 < M) {L : mr_V → Prop} (hL : mr_Li M L) {st li s2 l2 : Nat → Int} {n c : Nat} (h : mr_Lp M st li n (mr_S M L)) (h2 : mr_Lp M s2 l2 c (fun r : Int => ∃ i : Nat, i < n ∧ r = mr_of M (li i) u)) : ((c : Int) ≤ 1 ↔ ∀ x : Int, 0 ≤ x → x < M * M * M → mr_S M L x → mr_of M x u = 0) := by
  have h3 : 0 < M * M * M := Int.mul_pos (Int.mul_pos hM hM) hM
  have z0 : mr_of M 0 u = 0 := by
    have e : mr_of M 0 u = mr_ec M (fun _ => 0) := mr_ec_cg (fun j _ => by rw [mr_dec_z]; simp)
    rw [e, mr_ec_z]
  have s0 : mr_S M L 0 := mr_Li_mod hL (x := fun _ => 0) (fun j _ => by rw [Int.sub_zero]; rw [mr_dec_z]; exact mr_dvd_0 M) hL.1.2.1
  obtain ⟨i0, hi0, e0⟩ := h.2.2.2.1 0 (by omega) s0
  have in0 : ∃ k, k < c ∧ l2 k = 0 := by
    obtain ⟨k, hk, e⟩ := h2.2.2.2.1 0 (by omega) ⟨i0, hi0, by rw [e0]; exact z0.symm⟩
    exact ⟨k, hk, e⟩
  obtain ⟨k0, hk0, ek0⟩ := in0
  refine ⟨fun hc x hx hx2 hS => ?_, fun hx => ?_⟩
  · obtain ⟨i, hi, ei⟩ := h.2.2.2.1 x.toNat (by omega) (by rw [Int.toNat_of_nonneg hx]; exact hS)
    rw [Int.toNat_of_nonneg hx] at ei
    have hb := mr_of_bd hM x u
    obtain ⟨k, hk, ek⟩ := h2.2.2.2.1 (mr_of M x u).toNat (by omega) ⟨i, hi, by rw [ei, Int.toNat_of_nonneg hb.1]⟩
    have : k = k0 := by omega
    subst this
    omega
  · rcases (show (c : Int) ≤ 1 ∨ 2 ≤ c by omega) with q | q
    · exact q
    · exfalso
      have a : ∀ k, k < c → l2 k = 0 := fun k hk => by
        obtain ⟨i, hi, e⟩ := (h2.2.2.1 k hk).2
        have b := h.2.2.1 i hi
        rw [e]
        exact hx _ b.1.1 b.1.2 b.2
      have := h2.2.2.2.2 0 1 (by omega) (by omega) ((a 0 (by omega)).trans (a 1 (by omega)).symm)
      omega
theorem mr_of_M {M : Int} (x : Int) : mr_of M x M = 0 := by
  have e : mr_of M x M = mr_ec M (fun _ => 0) := mr_ec_cg (fun j _ => by rw [Int.sub_zero]; exact Int.dvd_mul_left _ _)
  rw [e, mr_ec_z]
