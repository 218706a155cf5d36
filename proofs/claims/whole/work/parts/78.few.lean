/-! FEW, NOUGHT -/
def mr_Nu (M : Int) (L : mr_V → Prop) (n : Nat) : Prop := ∃ a : Nat → Nat, mr_En (M * M * M).toNat (fun r => mr_S M L r) n a
def mr_Ld (M d : Int) (L : mr_V → Prop) : mr_V → Prop := fun x => L x ∧ ∀ j, j < 3 → M ∣ d * x j
theorem mr_dvd_lin {M d x y k : Int} (hx : M ∣ d * x) (hy : M ∣ d * y) : M ∣ d * (x + k * y) := by
  rw [Int.mul_add, ← Int.mul_assoc, Int.mul_comm d k, Int.mul_assoc]
  exact Int.dvd_add hx (Int.dvd_trans hy (Int.dvd_mul_left k _))
theorem mr_Ld_Li {M d : Int} {L : mr_V → Prop} (h : mr_Li M L) : mr_Li M (mr_Ld M d L) := by
  refine ⟨⟨fun x y e hx => ⟨h.1.1 x y e hx.1, fun j hj => by rw [← e j hj]; exact hx.2 j hj⟩, ⟨h.1.2.1, fun j _ => by rw [Int.mul_zero]; exact mr_dvd_0 M⟩, fun x y k hx hy => ⟨h.1.2.2 x y k hx.1 hy.1, fun j hj => mr_dvd_lin (hx.2 j hj) (hy.2 j hj)⟩⟩, fun j hj => ⟨h.2 j hj, fun i hi => ?_⟩⟩
  rw [mr_e_at]
  split
  · exact Int.dvd_mul_left d M
  · rw [Int.mul_zero]; exact mr_dvd_0 M
theorem mr_LT_Li {M d : Int} {L : mr_V → Prop} (h : mr_Li M L) : mr_Li M (mr_LT M d L) := by
  refine ⟨⟨fun x y e ⟨z, hz, hd⟩ => ⟨z, hz, fun j hj => by rw [← e j hj]; exact hd j hj⟩, ⟨fun _ => 0, h.1.2.1, fun j _ => by simp⟩, fun x y k ⟨z, hz, hd⟩ ⟨z', hz', hd'⟩ => ⟨_, h.1.2.2 z z' k hz hz', fun j hj => ?_⟩⟩, fun j hj => ⟨fun _ => 0, h.1.2.1, fun i hi => ?_⟩⟩
  · show M ∣ x j + k * y j - d * (z j + k * z' j)
    rw [show x j + k * y j - d * (z j + k * z' j) = (x j - d * z j) + k * (y j - d * z' j) by rw [Int.mul_add, Int.mul_sub, ← Int.mul_assoc, Int.mul_comm d k, Int.mul_assoc]; omega]
    exact Int.dvd_add (hd j hj) (Int.dvd_trans (hd' j hj) (Int.dvd_mul_left k _))
  · show M ∣ mr_e j M i - d * 0
    rw [Int.mul_zero, Int.sub_zero, mr_e_at]
    split
    · exact Int.dvd_refl M
    · exact mr_dvd_0 M
theorem mr_Nu_ex (M : Int) (L : mr_V → Prop) : ∃ n, mr_Nu M L n := by
  obtain ⟨n, a, h⟩ := mr_En_ex (fun r => mr_S M L r) (M * M * M).toNat
  exact ⟨n, a, h⟩
theorem mr_Nu_le {M : Int} {L L' : mr_V → Prop} {n n' : Nat} (h : mr_Nu M L n) (h' : mr_Nu M L' n') (e : ∀ x, L x → L' x) : n ≤ n' := by
  obtain ⟨a, h⟩ := h
  obtain ⟨a', h'⟩ := h'
  exact mr_En_le h h' id (fun r hr hs => ⟨hr, e _ hs⟩) (fun _ _ _ _ _ _ z => z)
theorem mr_Nu_eq {M : Int} {L L' : mr_V → Prop} {n n' : Nat} (h : mr_Nu M L n) (h' : mr_Nu M L' n') (e : ∀ x, L x ↔ L' x) : n = n' := Nat.le_antisymm (mr_Nu_le h h' (fun x => (e x).mp)) (mr_Nu_le h' h (fun x => (e x).mpr))
theorem mr_Nu_Fo {M : Int} (hM : 1 ≤ M) {w : Nat} {F : Nat → mr_V} {L : mr_V → Prop} (h : mr_Fo M w F L) {n : Nat} (hn : mr_Nu M L n) : (n : Int) = mr_Sz M F := by
  obtain ⟨a, hn⟩ := hn
  exact mr_cnt_sz hM h hn
theorem mr_of_LT {M d : Int} (hM : 0 < M) {L : mr_V → Prop} {x : Int} (hx : mr_S M L x) : mr_S M (mr_LT M d L) (mr_of M x d) := ⟨mr_dec M x, hx, fun j hj => by rw [Int.mul_comm d]; exact mr_of_dec hM x d j hj⟩
theorem mr_LT_of {M d : Int} (hM : 0 < M) {L : mr_V → Prop} (hL : mr_Li M L) {r : Int} (h0 : 0 ≤ r) (h1 : r < M * M * M) (h : mr_S M (mr_LT M d L) r) : ∃ x : Int, (0 ≤ x ∧ x < M * M * M) ∧ mr_S M L x ∧ r = mr_of M x d := by
  obtain ⟨y, hy, hd⟩ := h
  refine ⟨mr_ec M y, mr_ec_bd hM y, (mr_S_ec hM hL.1 hL.2 y).mpr hy, ?_⟩
  rw [← mr_ec_dec hM h0 h1]
  refine mr_ec_cg (fun j hj => ?_)
  rw [mr_dec_ec hM y j hj]
  have a := hd j hj
  have b : M ∣ (y j % M - y j) * d := Int.dvd_trans (mr_dvd_self_emod M (y j)) (Int.dvd_mul_right _ d)
  rw [show mr_dec M r j - y j % M * d = (mr_dec M r j - d * y j) - (y j % M - y j) * d by rw [Int.sub_mul, Int.mul_comm d]; omega]
  exact Int.dvd_sub a b
theorem mr_ec_sub_inj {M : Int} (hM : 0 < M) {r s : Nat} (hr : (r : Int) < M * M * M) (hs : (s : Int) < M * M * M) {y : mr_V} (e : mr_ec M (fun j => mr_dec M r j + y j) = mr_ec M (fun j => mr_dec M s j + y j)) : r = s := by
  have e3 := mr_ec_inj hM e
  have e4 := mr_ec_cg (M := M) (x := mr_dec M r) (y := mr_dec M s) (fun j hj => by
    have := e3 j hj
    rw [show mr_dec M r j + y j - (mr_dec M s j + y j) = mr_dec M r j - mr_dec M s j by omega] at this
    exact this)
  rw [mr_ec_dec hM (by omega) hr, mr_ec_dec hM (by omega) hs] at e4
  omega
/-- as many as multiples, times those that are made nought -/
theorem mr_hom {M d : Int} (hM : 1 ≤ M) {L : mr_V → Prop} (h : mr_Li M L) {n c m : Nat} (hn : mr_Nu M L n) (hc : mr_Nu M (mr_LT M d L) c) (hm : mr_Nu M (mr_Ld M d L) m) : n = c * m := by
  have hM0 : 0 < M := by omega
  obtain ⟨a, ha⟩ := hn
  obtain ⟨b, hb⟩ := hc
  obtain ⟨k, hk⟩ := hm
  have idE : ∀ q : Nat, mr_En q (fun _ => True) q (fun t => t) := fun q => ⟨fun t ht => ⟨ht, trivial⟩, fun r hr _ => ⟨r, hr, rfl⟩, fun i t _ _ e => e⟩
  -- a section
  have hsec : ∀ i : Nat, ∃ s : Nat, i < c → s < (M * M * M).toNat ∧ mr_S M L s ∧ mr_of M s d = b i := fun i => by
    by_cases hi : i < c
    · obtain ⟨g1, g2⟩ := hb.1 i hi
      obtain ⟨x, hx, hS, e⟩ := mr_LT_of hM0 h (r := (b i : Nat)) (by omega) (by omega) g2
      refine ⟨x.toNat, fun _ => ⟨by omega, ?_, ?_⟩⟩
      · rw [Int.toNat_of_nonneg hx.1]; exact hS
      · rw [Int.toNat_of_nonneg hx.1]; exact e.symm
    · exact ⟨0, fun z => absurd z hi⟩
  obtain ⟨sec, hs'⟩ : ∃ sec : Nat → Nat, ∀ i, i < c → sec i < (M * M * M).toNat ∧ mr_S M L (sec i) ∧ mr_of M (sec i) d = b i := ⟨fun i => Classical.choose (hsec i), fun i hi => Classical.choose_spec (hsec i) hi⟩
  refine Nat.le_antisymm ?_ ?_
  · have hex : ∀ r : Nat, ∃ t : Nat, r < (M * M * M).toNat → mr_S M L r → ∃ i q : Nat, i < c ∧ q < m ∧ t = i * m + q ∧ b i = (mr_of M r d).toNat ∧ k q = (mr_ec M (fun j => mr_dec M r j + - mr_dec M (sec i) j)).toNat := fun r => by
      by_cases hr : r < (M * M * M).toNat ∧ mr_S M L r
      · have ob := mr_of_bd hM0 r d
        obtain ⟨i, hi, ei⟩ := hb.2.1 (mr_of M r d).toNat (by omega) (by show mr_S M (mr_LT M d L) ((mr_of M r d).toNat : Nat); rw [Int.toNat_of_nonneg ob.1]; exact mr_of_LT hM0 hr.2)
        obtain ⟨s1, s2, s3⟩ := hs' i hi
        have eb := mr_ec_bd hM0 (fun j => mr_dec M r j + - mr_dec M (sec i) j)
        have li : L (fun j => mr_dec M r j + - mr_dec M (sec i) j) := h.1.1 _ _ (fun j _ => by show mr_dec M r j + -1 * mr_dec M (sec i) j = mr_dec M r j + - mr_dec M (sec i) j; omega) (h.1.2.2 _ _ (-1) hr.2 s2)
        have oe : mr_of M r d = mr_of M (sec i) d := by rw [s3, ei, Int.toNat_of_nonneg ob.1]
        have ld : mr_Ld M d L (fun j => mr_dec M r j + - mr_dec M (sec i) j) := ⟨li, fun j hj => by
          have := mr_ec_inj hM0 oe j hj
          rw [show d * (mr_dec M r j + - mr_dec M (sec i) j) = mr_dec M r j * d - mr_dec M (sec i) j * d by rw [Int.mul_add, Int.mul_neg, Int.mul_comm d, Int.mul_comm d]; omega]
          exact this⟩
        obtain ⟨q, hq, eq⟩ := hk.2.1 (mr_ec M (fun j => mr_dec M r j + - mr_dec M (sec i) j)).toNat (by omega) (by
          show mr_S M (mr_Ld M d L) ((mr_ec M (fun j => mr_dec M r j + - mr_dec M (sec i) j)).toNat : Nat)
          rw [Int.toNat_of_nonneg eb.1]
          exact (mr_S_ec hM0 (mr_Ld_Li h).1 (mr_Ld_Li h).2 _).mpr ld)
        exact ⟨i * m + q, fun _ _ => ⟨i, q, hi, hq, rfl, ei, eq⟩⟩
      · exact ⟨0, fun h1 h2 => absurd ⟨h1, h2⟩ hr⟩
    refine mr_En_le ha (idE (c * m)) (fun r => Classical.choose (hex r)) (fun r hr hS => ⟨?_, trivial⟩) (fun r r' hr hr' hS hS' e => ?_)
    · obtain ⟨i, q, hi, hq, et, -, -⟩ := Classical.choose_spec (hex r) hr hS
      show Classical.choose (hex r) < c * m
      rw [et]
      have := Nat.mul_le_mul_right m (show i + 1 ≤ c by omega)
      rw [Nat.add_mul, Nat.one_mul] at this
      omega
    · obtain ⟨i, q, hi, hq, et, e1, e2⟩ := Classical.choose_spec (hex r) hr hS
      obtain ⟨i', q', hi', hq', et', e1', e2'⟩ := Classical.choose_spec (hex r') hr' hS'
      have e' : Classical.choose (hex r) = Classical.choose (hex r') := e
      rw [et, et'] at e'
      have hm0 : 0 < m := by omega
      have ii : i = i' := by
        have a1 : (i * m + q) / m = i := by rw [Nat.mul_comm, Nat.mul_add_div hm0, Nat.div_eq_of_lt hq]; omega
        have a2 : (i' * m + q') / m = i' := by rw [Nat.mul_comm, Nat.mul_add_div hm0, Nat.div_eq_of_lt hq']; omega
        rw [← a1, ← a2, e']
      subst ii
      have qq : q = q' := by omega
      subst qq
      have b1 := mr_ec_bd hM0 (fun j => mr_dec M r j + - mr_dec M (sec i) j)
      have b2 := mr_ec_bd hM0 (fun j => mr_dec M r' j + - mr_dec M (sec i) j)
      exact mr_ec_sub_inj hM0 (by omega) (by omega) (y := fun j => - mr_dec M (sec i) j) (by omega)
  · refine mr_En_le (idE (c * m)) ha (fun t => (mr_ec M (fun j => mr_dec M (k (t % m)) j + mr_dec M (sec (t / m)) j)).toNat) (fun t ht _ => ?_) (fun t t' ht ht' _ _ e => ?_)
    · have hm0 : 0 < m := Nat.pos_of_ne_zero (fun z => by rw [z, Nat.mul_zero] at ht; omega)
      have hi : t / m < c := Nat.div_lt_of_lt_mul (by rw [Nat.mul_comm]; exact ht)
      have hq : t % m < m := Nat.mod_lt t hm0
      have eb := mr_ec_bd hM0 (fun j => mr_dec M (k (t % m)) j + mr_dec M (sec (t / m)) j)
      refine ⟨by omega, ?_⟩
      show mr_S M L ((mr_ec M (fun j => mr_dec M (k (t % m)) j + mr_dec M (sec (t / m)) j)).toNat : Nat)
      rw [Int.toNat_of_nonneg eb.1]
      exact (mr_S_ec hM0 h.1 h.2 _).mpr (mr_Lat_add h.1 (hk.1 _ hq).2.1 (hs' _ hi).2.1)
    · have hm0 : 0 < m := Nat.pos_of_ne_zero (fun z => by rw [z, Nat.mul_zero] at ht; omega)
      have hi : t / m < c := Nat.div_lt_of_lt_mul (by rw [Nat.mul_comm]; exact ht)
      have hq : t % m < m := Nat.mod_lt t hm0
      have hi' : t' / m < c := Nat.div_lt_of_lt_mul (by rw [Nat.mul_comm]; exact ht')
      have hq' : t' % m < m := Nat.mod_lt t' hm0
      have eb := mr_ec_bd hM0 (fun j => mr_dec M (k (t % m)) j + mr_dec M (sec (t / m)) j)
      have eb' := mr_ec_bd hM0 (fun j => mr_dec M (k (t' % m)) j + mr_dec M (sec (t' / m)) j)
      have e' : (mr_ec M (fun j => mr_dec M (k (t % m)) j + mr_dec M (sec (t / m)) j)).toNat = (mr_ec M (fun j => mr_dec M (k (t' % m)) j + mr_dec M (sec (t' / m)) j)).toNat := e
      have ee : mr_ec M (fun j => mr_dec M (k (t % m)) j + mr_dec M (sec (t / m)) j) = mr_ec M (fun j => mr_dec M (k (t' % m)) j + mr_dec M (sec (t' / m)) j) := by omega
      have dd := mr_ec_inj hM0 ee
      have of_e : mr_of M (sec (t / m)) d = mr_of M (sec (t' / m)) d := mr_ec_cg (fun j hj => by
        have z1 := (hk.1 _ hq).2.2 j hj
        have z2 := (hk.1 _ hq').2.2 j hj
        have z3 : M ∣ (mr_dec M (k (t % m)) j + mr_dec M (sec (t / m)) j - (mr_dec M (k (t' % m)) j + mr_dec M (sec (t' / m)) j)) * d := Int.dvd_trans (dd j hj) (Int.dvd_mul_right _ d)
        have z4 := Int.dvd_add (Int.dvd_sub z3 z1) z2
        rw [show (mr_dec M (k (t % m)) j + mr_dec M (sec (t / m)) j - (mr_dec M (k (t' % m)) j + mr_dec M (sec (t' / m)) j)) * d - d * mr_dec M (k (t % m)) j + d * mr_dec M (k (t' % m)) j = mr_dec M (sec (t / m)) j * d - mr_dec M (sec (t' / m)) j * d by rw [Int.sub_mul, Int.add_mul, Int.add_mul, Int.mul_comm d, Int.mul_comm d]; omega] at z4
        exact z4)
      rw [(hs' _ hi).2.2, (hs' _ hi').2.2] at of_e
      have ii := hb.2.2 _ _ hi hi' (by omega)
      rw [ii] at ee
      have k1 := (hk.1 _ hq).1
      have k2 := (hk.1 _ hq').1
      have kk := mr_ec_sub_inj hM0 (r := k (t % m)) (s := k (t' % m)) (by omega) (by omega) ee
      have qq := hk.2.2 _ _ hq hq' kk
      have d1 := Nat.div_add_mod t m
      have d2 := Nat.div_add_mod t' m
      rw [ii, qq] at d1
      omega
theorem mr_Ab {M a b : Int} (hM : 1 ≤ M) {L : mr_V → Prop} (h : mr_Li M L) {n c m : Nat} (hn : mr_Nu M (mr_Ld M (a * b) L) n) (hm : mr_Nu M (mr_Ld M a L) m) (hc : mr_Nu M (mr_Ld M b L) c) : n ≤ c * m := by
  have hL := mr_Ld_Li (d := a * b) h
  obtain ⟨c', hc'⟩ := mr_Nu_ex M (mr_LT M a (mr_Ld M (a * b) L))
  obtain ⟨m', hm'⟩ := mr_Nu_ex M (mr_Ld M a (mr_Ld M (a * b) L))
  have e := mr_hom hM hL hn hc' hm'
  have em : m' = m := mr_Nu_eq hm' hm (fun x => ⟨fun z => ⟨z.1.1, z.2⟩, fun z => ⟨⟨z.1, fun j hj => by rw [Int.mul_comm a b, Int.mul_assoc]; exact Int.dvd_trans (z.2 j hj) (Int.dvd_mul_left b _)⟩, z.2⟩⟩)
  have lc : c' ≤ c := mr_Nu_le hc' hc (fun x ⟨y, hy, hd⟩ => ⟨mr_Li_mod h (x := fun j => a * y j) hd (mr_Lat_smul h.1 a hy.1), fun j hj => by
    have z1 : M ∣ b * (x j - a * y j) := Int.dvd_trans (hd j hj) (Int.dvd_mul_left b _)
    have z2 := hy.2 j hj
    have z3 := Int.dvd_add z1 z2
    rw [show b * (x j - a * y j) + a * b * y j = b * x j by rw [Int.mul_sub, Int.mul_comm a b, Int.mul_assoc]; omega] at z3
    exact z3⟩)
  rw [e, em]
  exact Nat.mul_le_mul_right m lc
/-- of a prime: a power of it -/
theorem mr_Apw {M p : Int} (hM : 1 ≤ M) (hp2 : 2 ≤ p) (hp : mr_prm M p) {w : Nat} {F : Nat → mr_V} {L : mr_V → Prop} (h : mr_Fo M w F (mr_Ld M p L)) : ∃ k : Nat, k ≤ 3 ∧ mr_Sz M F = p ^ k := by
  have hdv : p ∣ M := Int.dvd_of_emod_eq_zero hp.1
  obtain ⟨e, he⟩ := hdv
  have e1 : 1 ≤ e := by
    rcases (show 1 ≤ e ∨ e ≤ 0 by omega) with q | q
    · exact q
    · have := Int.mul_nonpos_of_nonneg_of_nonpos (show 0 ≤ p by omega) q
      omega
  have key : ∀ c, c < 3 → mr_Ch M F c = 1 ∨ mr_Ch M F c = p := fun c hc => by
    obtain ⟨d1, d2, d3⟩ := mr_hD hM h hc
    have hl := (h.2.2.2.1 c hc).1.2 c hc
    have hl' : p * e ∣ p * mr_D M F c := by rw [← he]; exact hl
    obtain ⟨g, hg⟩ := Int.dvd_of_mul_dvd_mul_left (by omega) hl'
    have g2 : g * mr_Ch M F c = p := by
      have : e * (g * mr_Ch M F c) = e * p := by rw [← Int.mul_assoc, ← hg, d3, he, Int.mul_comm]
      exact Int.eq_of_mul_eq_mul_left (by omega) this
    generalize mr_Ch M F c = C at d2 g2 ⊢
    have gp : 1 ≤ g := by
      rcases (show 1 ≤ g ∨ g ≤ 0 by omega) with q | q
      · exact q
      · have := Int.mul_nonneg (show 0 ≤ -g by omega) (show 0 ≤ C by omega)
        rw [Int.neg_mul] at this
        omega
    have le : C ≤ p := by
      have := Int.mul_le_mul_of_nonneg_right gp (show 0 ≤ C by omega)
      rw [Int.one_mul] at this
      omega
    rcases (show C = 1 ∨ C = p ∨ (2 ≤ C ∧ C < p) by omega) with q | q | q
    · exact Or.inl q
    · exact Or.inr q
    · exact absurd (Int.emod_eq_zero_of_dvd ⟨g, by rw [Int.mul_comm, g2]⟩) (hp.2 C q.1 q.2)
  unfold mr_Sz
  rcases key 0 (by decide) with k0 | k0 <;> rcases key 1 (by decide) with k1 | k1 <;> rcases key 2 (by decide) with k2 | k2 <;> rw [k0, k1, k2]
  · exact ⟨0, by decide, by rw [Int.pow_zero]; rfl⟩
  · exact ⟨1, by decide, by rw [Int.pow_succ, Int.pow_zero]; omega⟩
  · exact ⟨1, by decide, by rw [Int.pow_succ, Int.pow_zero]; omega⟩
  · exact ⟨2, by decide, by first | rw [Int.pow_succ, Int.pow_succ, Int.pow_zero, Int.one_mul, Int.one_mul] | rw [Int.pow_succ, Int.pow_succ, Int.pow_zero, Int.one_mul]⟩
  · exact ⟨1, by decide, by rw [Int.pow_succ, Int.pow_zero]; omega⟩
  · exact ⟨2, by decide, by first | rw [Int.pow_succ, Int.pow_succ, Int.pow_zero, Int.one_mul, Int.one_mul] | rw [Int.pow_succ, Int.pow_succ, Int.pow_zero, Int.one_mul]⟩
  · exact ⟨2, by decide, by rw [Int.pow_succ, Int.pow_succ, Int.pow_zero, Int.one_mul, Int.mul_one]⟩
  · exact ⟨3, by decide, by rw [Int.pow_succ, Int.pow_succ, Int.pow_succ, Int.pow_zero, Int.one_mul, Int.mul_assoc]⟩
/-- the bound of the primes is that of all -/
theorem mr_Ad {M : Int} (hM : 1 ≤ M) {L : mr_V → Prop} (h : mr_Li M L) {m : Nat} (hpr : ∀ p : Int, 2 ≤ p → mr_prm M p → ∀ A, mr_Nu M (mr_Ld M p L) A → (A : Int) ≤ p ^ m) : ∀ (n : Nat) (d : Int), 2 ≤ d → d ≤ n → M % d = 0 → ∀ A, mr_Nu M (mr_Ld M d L) A → (A : Int) ≤ d ^ m
  | 0, d, h1, h2, _, _, _ => by omega
  | n + 1, d, h1, h2, h3, A, hA => by
    by_cases q : ∀ q : Int, 2 ≤ q → q < d → d % q ≠ 0
    · exact hpr d h1 ⟨h3, q⟩ A hA
    · have : ∃ q : Int, 2 ≤ q ∧ q < d ∧ d % q = 0 := Classical.byContradiction (fun z => q (fun x a b c => z ⟨x, a, b, c⟩))
      obtain ⟨a, a1, a2, a3⟩ := this
      obtain ⟨b, hb⟩ := Int.dvd_of_emod_eq_zero a3
      have b1 : 2 ≤ b := by
        rcases (show 2 ≤ b ∨ b ≤ 1 by omega) with z | z
        · exact z
        · have := Int.mul_le_mul_of_nonneg_left z (show 0 ≤ a by omega)
          rw [Int.mul_one] at this
          omega
      have b2 : b < d := by
        have := Int.mul_le_mul_of_nonneg_right a1 (show 0 ≤ b by omega)
        omega
      have Md := Int.dvd_of_emod_eq_zero h3
      have Ma : M % a = 0 := Int.emod_eq_zero_of_dvd (Int.dvd_trans ⟨b, hb⟩ Md)
      have Mb : M % b = 0 := Int.emod_eq_zero_of_dvd (Int.dvd_trans ⟨a, by rw [Int.mul_comm]; exact hb⟩ Md)
      obtain ⟨Aa, hAa⟩ := mr_Nu_ex M (mr_Ld M a L)
      obtain ⟨Ab, hAb⟩ := mr_Nu_ex M (mr_Ld M b L)
      have r1 := mr_Ad hM h hpr n a a1 (by omega) Ma Aa hAa
      have r2 := mr_Ad hM h hpr n b b1 (by omega) Mb Ab hAb
      rw [hb] at hA
      have r3 := mr_Ab hM h hA hAa hAb
      have r4 : (A : Int) ≤ (Ab : Int) * (Aa : Int) := by exact_mod_cast r3
      have r5 : (Ab : Int) * (Aa : Int) ≤ b ^ m * a ^ m := Int.mul_le_mul r2 r1 (by omega) (Int.le_of_lt (Int.pow_pos (by omega)))
      rw [hb, Int.mul_pow, Int.mul_comm]
      omega
theorem mr_lg_pow {p : Int} (hp : 2 ≤ p) : ∀ (k n : Nat), k < n → mr_lg p n (p ^ k) = k
  | 0, 0, h => by omega
  | 0, n + 1, _ => by
    show (if 1 < p ^ 0 then 1 + mr_lg p n (p ^ 0 / p) else 0) = 0
    rw [Int.pow_zero]
    exact if_neg (by decide)
  | k + 1, 0, h => by omega
  | k + 1, n + 1, h => by
    show (if 1 < p ^ (k + 1) then 1 + mr_lg p n (p ^ (k + 1) / p) else 0) = ((k + 1 : Nat) : Int)
    have hk : 0 < p ^ k := Int.pow_pos (by omega)
    have h1 : p ^ k * 2 ≤ p ^ k * p := Int.mul_le_mul_of_nonneg_left hp (by omega)
    rw [Int.pow_succ, if_pos (by omega), Int.mul_ediv_cancel _ (by omega), mr_lg_pow hp k n (by omega)]
    omega
theorem mr_pl3_e (x d : Int) : mr_pl3 x d 3 d 0 = if d ≤ x then (if d * d ≤ x then (if d * d * d ≤ x then 3 else 2) else 1) else 0 := by
  unfold mr_pl3
  split
  · unfold mr_pl3
    split
    · unfold mr_pl3
      split
      · rfl
      · rfl
    · rfl
  · rfl
theorem mr_pl3_le {x d : Int} (hd : 2 ≤ d) {m : Nat} (h : x ≤ d ^ m) : mr_pl3 x d 3 d 0 ≤ m := by
  rw [mr_pl3_e]
  have h2 : 2 * d ≤ d * d := Int.mul_le_mul_of_nonneg_right hd (by omega)
  have h3 : d * d * 2 ≤ d * d * d := Int.mul_le_mul_of_nonneg_left hd (by omega)
  rcases (show m = 0 ∨ m = 1 ∨ m = 2 ∨ 3 ≤ m by omega) with e | e | e | e
  · subst e; rw [Int.pow_zero] at h; rw [if_neg (by omega)]; omega
  · subst e; rw [Int.pow_succ, Int.pow_zero, Int.one_mul] at h; rw [if_neg (show ¬ d * d ≤ x by omega)]; split <;> omega
  · subst e; rw [Int.pow_succ, Int.pow_succ, Int.pow_zero, Int.one_mul] at h; rw [if_neg (show ¬ d * d * d ≤ x by omega)]; split
    · split <;> omega
    · omega
  · split
    · split
      · split <;> omega
      · omega
    · omega
theorem mr_pl3_pow {d : Int} (hd : 2 ≤ d) {m : Nat} (h : m ≤ 3) : mr_pl3 (d ^ m) d 3 d 0 = m := by
  rw [mr_pl3_e]
  have h2 : 2 * d ≤ d * d := Int.mul_le_mul_of_nonneg_right hd (by omega)
  have h3 : d * d * 2 ≤ d * d * d := Int.mul_le_mul_of_nonneg_left hd (by omega)
  rcases (show m = 0 ∨ m = 1 ∨ m = 2 ∨ m = 3 by omega) with e | e | e | e <;> subst e
  · rw [Int.pow_zero, if_neg (by omega)]; rfl
  · rw [Int.pow_succ, Int.pow_zero, Int.one_mul, if_pos (by omega), if_neg (by omega)]; rfl
  · rw [Int.pow_succ, Int.pow_succ, Int.pow_zero, Int.one_mul, if_pos (by omega), if_pos (by omega), if_neg (by omega)]; rfl
  · rw [Int.pow_succ, Int.pow_succ, Int.pow_succ, Int.pow_zero, Int.one_mul, if_pos (by omega), if_pos (by omega), if_pos (by omega)]; rfl
