/-! ROWS as one number. -/
def mr_dec (M r : Int) : mr_V := mr_l3 (r / (M * M)) (r / M % M) (r % M)
def mr_ec (M : Int) (x : mr_V) : Int := x 0 % M * M * M + x 1 % M * M + x 2 % M
theorem mr_dec_0 (M r : Int) : mr_dec M r 0 = r / (M * M) := rfl
theorem mr_dec_1 (M r : Int) : mr_dec M r 1 = r / M % M := rfl
theorem mr_dec_2 (M r : Int) : mr_dec M r 2 = r % M := rfl
theorem mr_em {M : Int} (hM : 0 < M) (x : Int) : 0 ≤ x % M ∧ x % M < M := ⟨Int.emod_nonneg _ (by omega), Int.emod_lt_of_pos _ hM⟩
theorem mr_q2 {M : Int} (hM : 0 < M) {a b : Int} (hb : 0 ≤ b ∧ b < M) : (a * M + b) / M = a ∧ (a * M + b) % M = b := by
  constructor
  · rw [Int.add_comm, Int.add_mul_ediv_right _ _ (by omega), Int.ediv_eq_zero_of_lt hb.1 hb.2]; omega
  · rw [Int.add_comm, Int.add_mul_emod_self_right, Int.emod_eq_of_lt hb.1 hb.2]
theorem mr_dd {M : Int} (hM : 0 < M) (r : Int) : r / (M * M) = r / M / M := by
  rw [Int.ediv_ediv, if_neg (by omega), Int.sub_zero]
theorem mr_ec_form (M : Int) (x : mr_V) : mr_ec M x = (x 0 % M * M + x 1 % M) * M + x 2 % M := by
  unfold mr_ec
  rw [Int.add_mul]
theorem mr_ec_bd {M : Int} (hM : 0 < M) (x : mr_V) : 0 ≤ mr_ec M x ∧ mr_ec M x < M * M * M := by
  have a := mr_em hM (x 0)
  have b := mr_em hM (x 1)
  have c := mr_em hM (x 2)
  rw [mr_ec_form]
  have h1 : 0 ≤ x 0 % M * M := Int.mul_nonneg a.1 (by omega)
  have h2 : 0 ≤ (x 0 % M * M + x 1 % M) * M := Int.mul_nonneg (by omega) (by omega)
  have h3 : x 0 % M * M ≤ (M - 1) * M := Int.mul_le_mul_of_nonneg_right (by omega) (by omega)
  have h4 : (x 0 % M * M + x 1 % M) * M ≤ ((M - 1) * M + (M - 1)) * M := Int.mul_le_mul_of_nonneg_right (by omega) (by omega)
  refine ⟨by omega, ?_⟩
  have h5 : ((M - 1) * M + (M - 1)) * M = M * M * M - M := by grind
  omega
theorem mr_dec_ec {M : Int} (hM : 0 < M) (x : mr_V) : ∀ j, j < 3 → mr_dec M (mr_ec M x) j = x j % M := by
  have a := mr_em hM (x 0)
  have b := mr_em hM (x 1)
  have c := mr_em hM (x 2)
  have q1 := mr_q2 hM (a := x 0 % M * M + x 1 % M) c
  have q2 := mr_q2 hM (a := x 0 % M) b
  intro j hj
  rcases (show j = 0 ∨ j = 1 ∨ j = 2 by omega) with rfl | rfl | rfl
  · rw [mr_dec_0, mr_ec_form, mr_dd hM, q1.1, q2.1]
  · rw [mr_dec_1, mr_ec_form, q1.1, q2.2]
  · rw [mr_dec_2, mr_ec_form, q1.2]
/-- a row in its bounds -/
def mr_box (M : Int) (x : mr_V) : Prop := ∀ j, j < 3 → 0 ≤ x j ∧ x j < M
theorem mr_dec_box {M : Int} (hM : 0 < M) {r : Int} (h0 : 0 ≤ r) (h1 : r < M * M * M) : mr_box M (mr_dec M r) := by
  intro j hj
  rcases (show j = 0 ∨ j = 1 ∨ j = 2 by omega) with rfl | rfl | rfl
  · rw [mr_dec_0]
    exact ⟨Int.ediv_nonneg h0 (Int.mul_nonneg (by omega) (by omega)), Int.ediv_lt_of_lt_mul (Int.mul_pos hM hM) (by rw [← Int.mul_assoc]; exact h1)⟩
  · exact mr_em hM _
  · exact mr_em hM _
theorem mr_ec_dec {M : Int} (hM : 0 < M) {r : Int} (h0 : 0 ≤ r) (h1 : r < M * M * M) : mr_ec M (mr_dec M r) = r := by
  have hb := mr_dec_box hM h0 h1 0 (by decide)
  rw [mr_ec_form, Int.emod_eq_of_lt hb.1 hb.2, mr_dec_0, mr_dec_1, mr_dec_2, Int.emod_emod_of_dvd _ (Int.dvd_refl M), Int.emod_emod_of_dvd _ (Int.dvd_refl M), mr_dd hM]
  have e1 := Int.emod_add_mul_ediv (r / M) M
  have e2 := Int.emod_add_mul_ediv r M
  rw [Int.mul_comm M] at e1 e2
  rw [show r / M / M * M + r / M % M = r / M by omega]
  omega
theorem mr_ec_cg {M : Int} {x y : mr_V} (h : ∀ j, j < 3 → M ∣ x j - y j) : mr_ec M x = mr_ec M y := by
  have e : ∀ j, j < 3 → x j % M = y j % M := fun j hj => Int.emod_eq_emod_iff_emod_sub_eq_zero.mpr (Int.emod_eq_zero_of_dvd (h j hj))
  unfold mr_ec
  rw [e 0 (by decide), e 1 (by decide), e 2 (by decide)]
theorem mr_ec_inj {M : Int} (hM : 0 < M) {x y : mr_V} (h : mr_ec M x = mr_ec M y) : ∀ j, j < 3 → M ∣ x j - y j := fun j hj => by
  have h1 := mr_dec_ec hM x j hj
  have h2 := mr_dec_ec hM y j hj
  rw [h] at h1
  exact mr_dvd_of_emod (h1.symm.trans h2)
theorem mr_ec_box {M : Int} {x : mr_V} (h : mr_box M x) : mr_ec M x = (x 0 * M + x 1) * M + x 2 := by
  rw [mr_ec_form, Int.emod_eq_of_lt (h 0 (by decide)).1 (h 0 (by decide)).2, Int.emod_eq_of_lt (h 1 (by decide)).1 (h 1 (by decide)).2, Int.emod_eq_of_lt (h 2 (by decide)).1 (h 2 (by decide)).2]
theorem mr_dec_ec_box {M : Int} (hM : 0 < M) {x : mr_V} (h : mr_box M x) : ∀ j, j < 3 → mr_dec M (mr_ec M x) j = x j := fun j hj => by
  rw [mr_dec_ec hM x j hj, Int.emod_eq_of_lt (h j hj).1 (h j hj).2]
/-- order -/
def mr_lex (x y : mr_V) : Prop := x 0 < y 0 ∨ (x 0 = y 0 ∧ (x 1 < y 1 ∨ (x 1 = y 1 ∧ x 2 < y 2)))
theorem mr_ec_lt {M : Int} (hM : 0 < M) {x y : mr_V} (hx : mr_box M x) (hy : mr_box M y) (h : mr_lex x y) : mr_ec M x < mr_ec M y := by
  rw [mr_ec_box hx, mr_ec_box hy]
  have a := hx 1 (by decide)
  have b := hx 2 (by decide)
  have c := hy 1 (by decide)
  have d := hy 2 (by decide)
  have key : ∀ {p q r s : Int}, p < q → 0 ≤ r → r < M → 0 ≤ s → p * M + r < q * M + s := fun {p q r s} h1 h2 h3 h4 => by
    have : (p + 1) * M ≤ q * M := Int.mul_le_mul_of_nonneg_right (by omega) (by omega)
    rw [Int.add_mul] at this
    omega
  rcases h with h | ⟨h, h' | ⟨h', h''⟩⟩
  · exact key (key h a.1 a.2 c.1) b.1 b.2 d.1
  · exact key (by rw [h]; omega) b.1 b.2 d.1
  · rw [h, h']; omega
theorem mr_lex_tri (x y : mr_V) : mr_lex x y ∨ mr_lex y x ∨ ∀ j, j < 3 → x j = y j := by
  unfold mr_lex
  by_cases e : x 0 = y 0 ∧ x 1 = y 1 ∧ x 2 = y 2
  · refine Or.inr (Or.inr fun j hj => ?_)
    rcases (show j = 0 ∨ j = 1 ∨ j = 2 by omega) with rfl | rfl | rfl
    · exact e.1
    · exact e.2.1
    · exact e.2.2
  · omega
/-- together, so many times, what two rows make -/
def mr_tg (M a b : Int) : Int := mr_ec M (fun j => mr_dec M a j + mr_dec M b j)
def mr_of (M a u : Int) : Int := mr_ec M (fun j => mr_dec M a j * u)
def mr_dt (M a b : Int) : Int := (mr_dec M a 0 * mr_dec M b 0 + mr_dec M a 1 * mr_dec M b 1 + mr_dec M a 2 * mr_dec M b 2) % M
/-- a pigeon more than holes -/
theorem mr_pigeon : ∀ (N n : Nat) (f : Nat → Nat), (∀ k, k < n → f k < N) → (∀ i k, i < n → k < n → f i = f k → i = k) → n ≤ N
  | 0, n, f, h, _ => by
    rcases Nat.eq_zero_or_pos n with e | e
    · omega
    · have := h 0 e; omega
  | N + 1, n, f, h, hi => by
    by_cases hx : ∃ k, k < n ∧ f k = N
    · obtain ⟨k, hk, hf⟩ := hx
      have := mr_pigeon N (n - 1) (fun i => f (if i < k then i else i + 1)) (fun i hi2 => by
        show f (if i < k then i else i + 1) < N
        have hb := h (if i < k then i else i + 1) (by split <;> omega)
        have hne : f (if i < k then i else i + 1) ≠ N := fun z => by
          have := hi _ _ (show (if i < k then i else i + 1) < n by split <;> omega) hk (z.trans hf.symm)
          split at this <;> omega
        omega) (fun i j h1 h2 h3 => by
        have := hi _ _ (show (if i < k then i else i + 1) < n by split <;> omega) (show (if j < k then j else j + 1) < n by split <;> omega) h3
        split at this <;> split at this <;> omega)
      omega
    · have := mr_pigeon N n f (fun k hk => by
        have h1 := h k hk
        have : f k ≠ N := fun z => hx ⟨k, hk, z⟩
        omega) hi
      omega
/-- a set laid: an array says which, a list has each once -/
def mr_Lp (M : Int) (st li : Nat → Int) (n : Nat) (S : Int → Prop) : Prop := (∀ r : Nat, st r = 0 ∨ st r = 1) ∧ (∀ r : Nat, (r : Int) < M * M * M → (st r = 1 ↔ S r)) ∧ (∀ k : Nat, k < n → (0 ≤ li k ∧ li k < M * M * M) ∧ S (li k)) ∧ (∀ r : Nat, (r : Int) < M * M * M → S r → ∃ k, k < n ∧ li k = r) ∧ ∀ i k : Nat, i < n → k < n → li i = li k → i = k
theorem mr_Lp_le {M : Int} (hM : 0 ≤ M * M * M) {st li : Nat → Int} {n : Nat} {S : Int → Prop} (h : mr_Lp M st li n S) : (n : Int) ≤ M * M * M := by
  obtain ⟨h1, h2, h3, h4, h5⟩ := h
  have := mr_pigeon (M * M * M).toNat n (fun k => (li k).toNat) (fun k hk => by have := (h3 k hk).1; show (li k).toNat < _; omega) (fun i k hi hk e => h5 i k hi hk (by
    have a := (h3 i hi).1
    have b := (h3 k hk).1
    have : (li i).toNat = (li k).toNat := e
    omega))
  omega
theorem mr_Lp_add {M : Int} {st li : Nat → Int} {n : Nat} {S : Int → Prop} (h : mr_Lp M st li n S) {r : Int} (hr : 0 ≤ r ∧ r < M * M * M) (hn : ¬ S r) : mr_Lp M (mr_fs st r.toNat 1) (mr_fs li n r) (n + 1) (fun x => S x ∨ x = r) := by
  obtain ⟨h1, h2, h3, h4, h5⟩ := h
  refine ⟨fun q => ?_, fun q hq => ?_, fun k hk => ?_, fun q hq hs => ?_, fun i k hi hk e => ?_⟩
  · by_cases e : q = r.toNat
    · rw [e, mr_fs_same]; exact Or.inr rfl
    · rw [mr_fs_ne _ _ e]; exact h1 q
  · by_cases e : q = r.toNat
    · rw [e, mr_fs_same]; exact ⟨fun _ => Or.inr (by omega), fun _ => rfl⟩
    · rw [mr_fs_ne _ _ e]
      exact ⟨fun z => Or.inl ((h2 q hq).mp z), fun z => z.elim (fun y => (h2 q hq).mpr y) (fun y => absurd y (by omega))⟩
  · by_cases e : k = n
    · rw [e, mr_fs_same]; exact ⟨hr, Or.inr rfl⟩
    · rw [mr_fs_ne _ _ e]
      have := h3 k (by omega)
      exact ⟨this.1, Or.inl this.2⟩
  · rcases hs with hs | hs
    · obtain ⟨k, hk, e⟩ := h4 q hq hs
      exact ⟨k, by omega, by rw [mr_fs_ne _ _ (by omega)]; exact e⟩
    · exact ⟨n, by omega, by rw [mr_fs_same]; exact hs.symm⟩
  · by_cases e1 : i = n
    · by_cases e2 : k = n
      · omega
      · rw [e1, mr_fs_same, mr_fs_ne _ _ e2] at e
        exact absurd (e ▸ (h3 k (by omega)).2) hn
    · by_cases e2 : k = n
      · rw [e2, mr_fs_same, mr_fs_ne _ _ e1] at e
        exact absurd (e ▸ (h3 i (by omega)).2) hn
      · rw [mr_fs_ne _ _ e1, mr_fs_ne _ _ e2] at e
        exact h5 i k (by omega) (by omega) e
theorem mr_Lp_cg {M : Int} {st li : Nat → Int} {n : Nat} {S S' : Int → Prop} (h : mr_Lp M st li n S) (e : ∀ r : Int, 0 ≤ r → r < M * M * M → (S r ↔ S' r)) : mr_Lp M st li n S' := by
  obtain ⟨h1, h2, h3, h4, h5⟩ := h
  exact ⟨h1, fun r hr => (h2 r hr).trans (e r (by omega) hr), fun k hk => ⟨(h3 k hk).1, (e _ (h3 k hk).1.1 (h3 k hk).1.2).mp (h3 k hk).2⟩, fun r hr hs => h4 r hr ((e r (by omega) hr).mpr hs), h5⟩
/-- the rows of a lattice as one number each -/
def mr_S (M : Int) (L : mr_V → Prop) : Int → Prop := fun r => L (mr_dec M r)
theorem mr_S_ec {M : Int} (hM : 0 < M) {L : mr_V → Prop} (hL : mr_Lat 3 L) (he : ∀ j, j < 3 → L (mr_e j M)) (x : mr_V) : mr_S M L (mr_ec M x) ↔ L x := by
  have h1 : ∀ j, j < 3 → M ∣ mr_dec M (mr_ec M x) j - x j := fun j hj => by rw [mr_dec_ec hM x j hj]; exact mr_dvd_self_emod _ _
  exact ⟨fun h => mr_Lat_mod hL he (fun j hj => mr_dvd_sym (h1 j hj)) h, fun h => mr_Lat_mod hL he h1 h⟩
