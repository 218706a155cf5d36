/-! THE FIRST ROWS: what a form's rows and reduced rows are in the order of rows. -/
theorem mr_lex_least {M : Int} {w : Nat} {F : Nat → mr_V} {L : mr_V → Prop} (h : mr_Fo M w F L) {c : Nat} {x y : mr_V} (hy : ∀ j, c ≤ j → j < 3 → 0 ≤ y j ∧ y j < mr_hat M F j j) (hx : ∀ j, j < 3 → 0 ≤ x j) (hD : L (fun j => x j - y j)) (heq : ∀ j, j < c → x j = y j) : ¬ mr_lex x y := by
  have key : ∀ j, j < 3 → (∀ i, i < j → x i = y i) → ¬ x j < y j := fun j hj hz hlt => by
    by_cases e : j < c
    · have := heq j e; omega
    · have h1 := (h.2.2.2.1 j hj).2.2.2.1 _ hD (fun i hi => by show x i - y i = 0; rw [hz i hi]; omega)
      have h2 := hy j (by omega) hj
      have h3 := hx j hj
      have := mr_dvd_small h1 (by show -mr_hat M F j j < x j - y j; omega) (by show x j - y j < mr_hat M F j j; omega)
      omega
  rintro (z | ⟨z0, z | ⟨z1, z⟩⟩)
  · exact key 0 (by decide) (fun i hi => by omega) z
  · exact key 1 (by decide) (fun i hi => by have : i = 0 := by omega
                                            rw [this]; exact z0) z
  · exact key 2 (by decide) (fun i hi => by rcases (show i = 0 ∨ i = 1 by omega) with rfl | rfl
                                            · exact z0
                                            · exact z1) z
theorem mr_ec_le {M : Int} (hM : 0 < M) {x y : mr_V} (hx : mr_box M x) (hy : mr_box M y) (h : ¬ mr_lex x y) : mr_ec M y ≤ mr_ec M x := by
  rcases mr_lex_tri x y with z | z | z
  · exact absurd z h
  · exact Int.le_of_lt (mr_ec_lt hM hy hx z)
  · exact Int.le_of_eq (mr_ec_cg (fun j hj => by rw [z j hj]; exact mr_dvd_same _ _)).symm
theorem mr_Fo_box {M : Int} {w : Nat} {F : Nat → mr_V} {L : mr_V → Prop} (h : mr_Fo M w F L) {c : Nat} (hc : c < 3) : mr_box M (F c) := fun j hj => (h.2.2.2.2 c hc).1 j hj
theorem mr_hat_le {M : Int} (hM : 1 ≤ M) {w : Nat} {F : Nat → mr_V} {L : mr_V → Prop} (h : mr_Fo M w F L) {c : Nat} (hc : c < 3) : 1 ≤ mr_hat M F c c ∧ mr_hat M F c c ≤ M ∧ mr_hat M F c c ∣ M := by
  have h1 := mr_hat_lead hM hc (h.2.2.2.2 c hc)
  refine ⟨h1.1, h1.2.2, ?_⟩
  have := (h.2.2.2.1 c hc).2.2.2.1 _ (h.2.1 c hc) (fun j hj => mr_e_ne _ (by omega))
  rw [mr_e_same] at this
  exact this
/-- a row of the form is the first of its kind -/
theorem mr_Fo_first {M : Int} (hM : 1 ≤ M) {w : Nat} {F : Nat → mr_V} {L : mr_V → Prop} (h : mr_Fo M w F L) {c : Nat} (hc : c < 3) {x : mr_V} (hx : mr_box M x) (hL : L x) (hz : ∀ j, j < c → x j = 0) (hp : 0 < x c) : 0 < F c c ∧ mr_ec M (F c) ≤ mr_ec M x := by
  obtain ⟨a1, a2, a3, a4, a5⟩ := h.2.2.2.1 c hc
  have hB := h.2.2.2.2 c hc
  have hd := a4 x hL hz
  have hpos : 0 < F c c := by
    rcases Int.lt_or_le 0 (F c c) with z | z
    · exact z
    · rw [mr_hat_neg (by omega), mr_e_same] at hd
      have := mr_dvd_small hd (by omega) (hx c hc).2
      omega
  refine ⟨hpos, mr_ec_le (by omega) hx (mr_Fo_box h hc) ?_⟩
  rw [mr_hat_pos hpos] at hd a1 a5
  have hle : F c c ≤ x c := Int.le_of_dvd hp hd
  by_cases e : x c = F c c
  · refine mr_lex_least h (c := c + 1) (fun j h1 h2 => a5 j (by omega) h2) (fun j hj => (hx j hj).1) (mr_Lat_sub h.1 hL a1) (fun j hj => ?_)
    by_cases e2 : j = c
    · rw [e2]; exact e
    · rw [hz j (by omega), hB.2.1 j (by omega)]
  · intro hl
    have f0 : ∀ j, j < c → F c j = 0 := hB.2.1
    rcases (show c = 0 ∨ c = 1 ∨ c = 2 by omega) with rfl | rfl | rfl
    · unfold mr_lex at hl; omega
    · have := hz 0 (by decide); have := f0 0 (by decide)
      unfold mr_lex at hl; omega
    · have := hz 0 (by decide); have := f0 0 (by decide)
      have := hz 1 (by decide); have := f0 1 (by decide)
      unfold mr_lex at hl; omega
/-- where rows stand by their first number that isn't 0 -/
theorem mr_rng {M : Int} (hM : 0 < M) {x : mr_V} (hx : mr_box M x) : (0 < x 0 → M * M ≤ mr_ec M x) ∧ (x 0 = 0 → mr_ec M x < M * M) ∧ (x 0 = 0 → 0 < x 1 → M ≤ mr_ec M x) ∧ (x 0 = 0 → x 1 = 0 → mr_ec M x = x 2) := by
  have a := hx 0 (by decide)
  have b := hx 1 (by decide)
  have d := hx 2 (by decide)
  rw [mr_ec_box hx]
  refine ⟨fun h => ?_, fun h => ?_, fun h h1 => ?_, fun h h1 => ?_⟩
  · have h2 : 1 * M ≤ x 0 * M := Int.mul_le_mul_of_nonneg_right (by omega) (by omega)
    have h3 : M * M ≤ (x 0 * M + x 1) * M := Int.mul_le_mul_of_nonneg_right (by omega) (by omega)
    omega
  · rw [h, Int.zero_mul, Int.zero_add]
    have h3 : x 1 * M ≤ (M - 1) * M := Int.mul_le_mul_of_nonneg_right (by omega) (by omega)
    rw [Int.sub_mul] at h3
    omega
  · rw [h, Int.zero_mul, Int.zero_add]
    have h2 : 1 * M ≤ x 1 * M := Int.mul_le_mul_of_nonneg_right (by omega) (by omega)
    omega
  · rw [h, h1, Int.zero_mul, Int.zero_add, Int.zero_mul, Int.zero_add]
theorem mr_dig0 {M : Int} (hM : 0 < M) {r : Int} (h0 : 0 ≤ r) (h1 : r < M * M * M) : (M * M ≤ r ↔ 0 < mr_dec M r 0) ∧ (r < M * M → mr_dec M r 0 = 0) ∧ (r < M * M → (M ≤ r ↔ 0 < mr_dec M r 1)) ∧ (r < M → mr_dec M r 1 = 0) ∧ (r < M → mr_dec M r 2 = r) := by
  have hb := mr_dec_box hM h0 h1
  have hrg := mr_rng hM hb
  rw [mr_ec_dec hM h0 h1] at hrg
  obtain ⟨g1, g2, g3, g4⟩ := hrg
  have b0 := hb 0 (by decide)
  have b1 := hb 1 (by decide)
  have b2 := hb 2 (by decide)
  have hMM : M ≤ M * M := by
    have : 1 * M ≤ M * M := Int.mul_le_mul_of_nonneg_right (by omega) (by omega)
    omega
  refine ⟨⟨fun z => ?_, g1⟩, fun z => ?_, fun z => ⟨fun y => ?_, fun y => ?_⟩, fun z => ?_, fun z => ?_⟩
  · rcases Int.lt_or_le 0 (mr_dec M r 0) with q | q
    · exact q
    · have := g2 (by omega); omega
  · rcases Int.lt_or_le 0 (mr_dec M r 0) with q | q
    · have := g1 q; omega
    · omega
  · have e0 : mr_dec M r 0 = 0 := by
      rcases Int.lt_or_le 0 (mr_dec M r 0) with q | q
      · have := g1 q; omega
      · omega
    rcases Int.lt_or_le 0 (mr_dec M r 1) with q | q
    · exact q
    · have := g4 e0 (by omega); omega
  · have e0 : mr_dec M r 0 = 0 := by
      rcases Int.lt_or_le 0 (mr_dec M r 0) with q | q
      · have := g1 q; omega
      · omega
    exact g3 e0 y
  · have e0 : mr_dec M r 0 = 0 := by
      rcases Int.lt_or_le 0 (mr_dec M r 0) with q | q
      · have := g1 q; omega
      · omega
    rcases Int.lt_or_le 0 (mr_dec M r 1) with q | q
    · have := g3 e0 q; omega
    · omega
  · rw [mr_dec_2]; exact Int.emod_eq_of_lt h0 z
/-- an array that says which rows there are -/
def mr_St (M : Int) (st : Nat → Int) (S : Int → Prop) : Prop := (∀ r : Nat, st r = 0 ∨ st r = 1) ∧ ∀ r : Nat, (r : Int) < M * M * M → (st r = 1 ↔ S r)
theorem mr_Lp_St {M : Int} {st li : Nat → Int} {n : Nat} {S : Int → Prop} (h : mr_Lp M st li n S) : mr_St M st S := ⟨h.1, h.2.1⟩
theorem mr_St_at {M : Int} {st : Nat → Int} {S : Int → Prop} (h : mr_St M st S) {r : Int} (h0 : 0 ≤ r) (h1 : r < M * M * M) : st r.toNat = 1 ↔ S r := by
  have := h.2 r.toNat (by omega)
  rw [Int.toNat_of_nonneg h0] at this
  exact this
theorem mr_kp_c {M : Int} (hM : 1 ≤ M) {w : Nat} {F : Nat → mr_V} {L : mr_V → Prop} (h : mr_Fo M w F L) {st : Nat → Int} (hs : mr_St M st (mr_S M L)) {c : Nat} (hc : c < 3) {lo hi r : Int} (hlo : 0 < lo) (hhi : hi ≤ M * M * M) (hrg : ∀ x : mr_V, mr_box M x → ((lo ≤ mr_ec M x ∧ mr_ec M x < hi) ↔ ((∀ j, j < c → x j = 0) ∧ 0 < x c))) (hr : mr_fo st lo hi r) : r = mr_ec M (F c) := by
  have hB := h.2.2.2.2 c hc
  have hFb := mr_Fo_box h hc
  have hF := mr_ec_bd (M := M) (by omega) (F c)
  have hFS : mr_S M L (mr_ec M (F c)) := (mr_S_ec (by omega) h.1 h.2.1 _).mpr (mr_Fo_in h hc)
  rcases hr with ⟨h1, h2, h3, h4⟩ | ⟨h1, h2⟩
  · have hSr := (mr_St_at hs (by omega) (by omega)).mp h3
    have hxb := mr_dec_box (M := M) (by omega) (show 0 ≤ r by omega) (show r < M * M * M by omega)
    have hec := mr_ec_dec (M := M) (by omega) (show 0 ≤ r by omega) (show r < M * M * M by omega)
    obtain ⟨g1, g2⟩ := (hrg _ hxb).mp (by rw [hec]; exact ⟨h1, h2⟩)
    obtain ⟨f1, f2⟩ := mr_Fo_first hM h hc hxb hSr g1 g2
    rw [hec] at f2
    have f3 := (hrg _ hFb).mpr ⟨hB.2.1, f1⟩
    rcases Int.lt_or_le (mr_ec M (F c)) r with z | z
    · have := h4 _ f3.1 z
      have h5 := (mr_St_at hs hF.1 hF.2).mpr hFS
      omega
    · omega
  · rcases Int.lt_or_le 0 (F c c) with z | z
    · have f3 := (hrg _ hFb).mpr ⟨hB.2.1, z⟩
      have := h2 _ f3.1 f3.2
      have h5 := (mr_St_at hs hF.1 hF.2).mpr hFS
      omega
    · have hz := hB.2.2 (by have := (hB.1 c hc).1; omega)
      rw [h1, mr_ec_cg (y := fun _ => 0) (fun j hj => by rw [hz j hj]; exact mr_dvd_same _ _), mr_ec_z]
theorem mr_kp_0 {M : Int} (hM : 1 ≤ M) {w : Nat} {F : Nat → mr_V} {L : mr_V → Prop} (h : mr_Fo M w F L) {st : Nat → Int} (hs : mr_St M st (mr_S M L)) {r : Int} (hr : mr_fo st (M * M) (M * M * M) r) : r = mr_ec M (F 0) := by
  refine mr_kp_c hM h hs (by decide) (Int.mul_pos (by omega) (by omega)) (Int.le_refl _) (fun x hx => ?_) hr
  have g := mr_rng (M := M) (by omega) hx
  have b := mr_ec_bd (M := M) (by omega) x
  have b0 := (hx 0 (by decide)).1
  constructor
  · rintro ⟨z, -⟩
    refine ⟨fun j hj => by omega, ?_⟩
    rcases Int.lt_or_le 0 (x 0) with q | q
    · exact q
    · have := g.2.1 (by omega); omega
  · rintro ⟨-, z⟩
    exact ⟨g.1 z, b.2⟩
theorem mr_kp_1 {M : Int} (hM : 1 ≤ M) {w : Nat} {F : Nat → mr_V} {L : mr_V → Prop} (h : mr_Fo M w F L) {st : Nat → Int} (hs : mr_St M st (mr_S M L)) {r : Int} (hr : mr_fo st M (M * M) r) : r = mr_ec M (F 1) := by
  have h3 : M * M * 1 ≤ M * M * M := Int.mul_le_mul_of_nonneg_left hM (Int.mul_nonneg (by omega) (by omega))
  refine mr_kp_c hM h hs (by decide) (by omega) (by omega) (fun x hx => ?_) hr
  have g := mr_rng (M := M) (by omega) hx
  have b0 := (hx 0 (by decide)).1
  have b1 := (hx 1 (by decide)).1
  have b2 := (hx 2 (by decide)).2
  constructor
  · rintro ⟨z1, z2⟩
    have e0 : x 0 = 0 := by
      rcases Int.lt_or_le 0 (x 0) with q | q
      · have := g.1 q; omega
      · omega
    refine ⟨fun j hj => by have : j = 0 := by omega
                           rw [this]; exact e0, ?_⟩
    rcases Int.lt_or_le 0 (x 1) with q | q
    · exact q
    · have := g.2.2.2 e0 (by omega); omega
  · rintro ⟨z1, z2⟩
    have e0 := z1 0 (by decide)
    exact ⟨g.2.2.1 e0 z2, g.2.1 e0⟩
theorem mr_kp_2 {M : Int} (hM : 1 ≤ M) {w : Nat} {F : Nat → mr_V} {L : mr_V → Prop} (h : mr_Fo M w F L) {st : Nat → Int} (hs : mr_St M st (mr_S M L)) {r : Int} (hr : mr_fo st 1 M r) : r = mr_ec M (F 2) := by
  have h2 : M * 1 ≤ M * M := Int.mul_le_mul_of_nonneg_left hM (by omega)
  have h3 : M * M * 1 ≤ M * M * M := Int.mul_le_mul_of_nonneg_left hM (Int.mul_nonneg (by omega) (by omega))
  refine mr_kp_c hM h hs (by decide) (by decide) (by omega) (fun x hx => ?_) hr
  have g := mr_rng (M := M) (by omega) hx
  have b0 := (hx 0 (by decide)).1
  have b1 := (hx 1 (by decide)).1
  have b2 := (hx 2 (by decide))
  constructor
  · rintro ⟨z1, z2⟩
    have e0 : x 0 = 0 := by
      rcases Int.lt_or_le 0 (x 0) with q | q
      · have := g.1 q; omega
      · omega
    have e1 : x 1 = 0 := by
      rcases Int.lt_or_le 0 (x 1) with q | q
      · have := g.2.2.1 e0 q; omega
      · omega
    have e2 := g.2.2.2 e0 e1
    refine ⟨fun j hj => ?_, by omega⟩
    rcases (show j = 0 ∨ j = 1 by omega) with rfl | rfl
    · exact e0
    · exact e1
  · rintro ⟨z1, z2⟩
    have e2 := g.2.2.2 (z1 0 (by decide)) (z1 1 (by decide))
    omega
