theorem mr_byte_s {T g : Nat → Int} {n : Int} (hn : 0 ≤ n) (h : ∀ j : Nat, (j : Int) < n → T j = mr_ba n g j) (x : Int) : ∀ j : Nat, (j : Int) < n + 4 → mr_t4 T n x j = mr_ba (n + 4) (mr_b4 g n x) j := fun j hj => by
  unfold mr_ba
  rw [if_pos ⟨by omega, hj⟩, Int.toNat_natCast]
  unfold mr_t4 mr_b4
  have p24 : (2 : Int) ^ 24 = 16777216 := rfl
  have p16 : (2 : Int) ^ 16 = 65536 := rfl
  have p8 : (2 : Int) ^ 8 = 256 := rfl
  have p0 : (2 : Int) ^ 0 = 1 := rfl
  have bm : ∀ y : Int, y.bmod 256 % 256 = y % 256 := fun y => Int.bmod_emod
  rw [p24, p16, p8, p0]
  rcases (show (j : Int) < n ∨ (j : Int) = n ∨ (j : Int) = n + 1 ∨ (j : Int) = n + 2 ∨ (j : Int) = n + 3 by omega) with e | e | e | e | e
  · rw [mr_fs_ne _ _ (by omega), mr_fs_ne _ _ (by omega), mr_fs_ne _ _ (by omega), mr_fs_ne _ _ (by omega), mr_fs_ne _ _ (by omega), mr_fs_ne _ _ (by omega), mr_fs_ne _ _ (by omega), mr_fs_ne _ _ (by omega), h j e]
    unfold mr_ba
    rw [if_pos ⟨by omega, e⟩, Int.toNat_natCast]
  · have ej : j = n.toNat := by omega
    rw [mr_fs_ne _ _ (by omega), mr_fs_ne _ _ (by omega), mr_fs_ne _ _ (by omega), mr_fs_ne _ _ (show j ≠ (n + 3).toNat by omega), mr_fs_ne _ _ (show j ≠ (n + 2).toNat by omega), mr_fs_ne _ _ (show j ≠ (n + 1).toNat by omega), ej, mr_fs_same, mr_fs_same, bm]
  · have ej : j = (n + 1).toNat := by omega
    rw [mr_fs_ne _ _ (show j ≠ (n + 1 + 1 + 1).toNat by omega), mr_fs_ne _ _ (show j ≠ (n + 1 + 1).toNat by omega), mr_fs_ne _ _ (show j ≠ (n + 3).toNat by omega), mr_fs_ne _ _ (show j ≠ (n + 2).toNat by omega), ej, mr_fs_same, mr_fs_same, bm]
  · have ej : j = (n + 2).toNat := by omega
    have ej2 : j = (n + 1 + 1).toNat := by omega
    rw [mr_fs_ne _ _ (show j ≠ (n + 1 + 1 + 1).toNat by omega), mr_fs_ne _ _ (show j ≠ (n + 3).toNat by omega), show (n + 1 + 1).toNat = j from ej2.symm, show (n + 2).toNat = j from ej.symm, mr_fs_same, mr_fs_same, bm]
  · have ej : j = (n + 3).toNat := by omega
    have ej2 : j = (n + 1 + 1 + 1).toNat := by omega
    rw [show (n + 1 + 1 + 1).toNat = j from ej2.symm, show (n + 3).toNat = j from ej.symm, mr_fs_same, mr_fs_same, bm]
    omega
/-- the joined, as the Model joins -/
theorem mr_LJ3 {M : Int} (hM : 0 < M) {w : Nat} {F : Nat → mr_V} {L L' : mr_V → Prop} (hL : mr_Li M L) (hL' : mr_Fo M w F L') (x : mr_V) : mr_LA (mr_LA (mr_LA L (F 0)) (F 1)) (F 2) x ↔ mr_LJ L L' x := by
  refine ⟨fun ⟨k2, k1, k0, h⟩ => ?_, fun ⟨y, hy, hz⟩ => ?_⟩
  · refine ⟨_, h, ?_⟩
    have a := hL'.1.2.2 _ _ k1 (hL'.1.2.2 _ _ k2 (mr_Lat_smul hL'.1 k0 (mr_Fo_in hL' (c := 0) (by decide))) (mr_Fo_in hL' (c := 2) (by decide))) (mr_Fo_in hL' (c := 1) (by decide))
    refine hL'.1.1 _ _ (fun j _ => ?_) a
    show k0 * F 0 j + k2 * F 2 j + k1 * F 1 j = x j + -1 * (x j + -k2 * F 2 j + -k1 * F 1 j + -k0 * F 0 j)
    simp only [Int.neg_mul, Int.one_mul]
    omega
  · obtain ⟨k2, k1, k0, h⟩ := (mr_Fo_LA hL' (fun j => x j + -1 * y j)).mpr hz
    refine ⟨k2, k1, k0, mr_Li_mod hL (x := y) (fun j hj => ?_) hy⟩
    have := h j hj
    have this' : M ∣ x j + -1 * y j + -k2 * F 2 j + -k1 * F 1 j + -k0 * F 0 j := this
    show M ∣ x j + -k2 * F 2 j + -k1 * F 1 j + -k0 * F 0 j - y j
    rw [show x j + -k2 * F 2 j + -k1 * F 1 j + -k0 * F 0 j - y j = x j + -1 * y j + -k2 * F 2 j + -k1 * F 1 j + -k0 * F 0 j by omega]
    exact this'
theorem mr_Lup_q (L : Int → mr_V → Prop) (q : Int) (X : mr_V → Prop) : mr_Lup L q X q = X := if_pos rfl
theorem mr_act_sz {f' : Nat → Int} {M : Int} {W : Nat} {L : Int → mr_V → Prop} {q : Int} {Lt : mr_V → Prop} (h : mr_WB f' M W (mr_Lup L q Lt)) (hq : 0 ≤ q ∧ q < 4) {st li : Nat → Int} {n : Nat} (hp : mr_Lp M st li n (mr_S M Lt)) : (n : Int) = mr_sz f' q 0 := mr_Lp_book h hq (by rw [mr_Lup_q]; exact hp)
theorem mr_act_Fo {f' : Nat → Int} {M : Int} {W : Nat} {L : Int → mr_V → Prop} {q : Int} {Lt : mr_V → Prop} (h : mr_WB f' M W (mr_Lup L q Lt)) (hq : 0 ≤ q ∧ q < 4) : mr_Fo M W (mr_br f' q) Lt := by
  have := h.2.2.2.2.2.1 q hq.1 hq.2
  rw [mr_Lup_q] at this
  exact this
/-- all rows -/
theorem mr_Fo_all {M : Int} (hM : 2 ≤ M) {w : Nat} {F : Nat → mr_V} (hF : ∀ c j, c < 3 → j < 3 → F c j = if c < w ∧ j = c then 1 else 0) : mr_Fo M w F (fun x => ∀ j, w ≤ j → j < 3 → M ∣ x j) := by
  have hh : ∀ c, c < 3 → ∀ j, j < 3 → mr_hat M F c j = if j = c then (if c < w then 1 else M) else 0 := fun c hc j hj => by
    by_cases q : c < w
    · rw [mr_hat_pos (by rw [hF c c hc hc, if_pos ⟨q, rfl⟩]; decide), hF c j hc hj, if_pos q]
      by_cases e : j = c
      · rw [if_pos ⟨q, e⟩, if_pos e]
      · rw [if_neg (fun z => e z.2), if_neg e]
    · rw [mr_hat_neg (by rw [hF c c hc hc, if_neg (fun z => q z.1)]; decide), mr_e_at, if_neg q]
  have lat : mr_Lat 3 (fun x : mr_V => ∀ j, w ≤ j → j < 3 → M ∣ x j) := ⟨fun x y e hx j g1 g2 => by rw [← e j g2]; exact hx j g1 g2, fun j _ _ => mr_dvd_0 M, fun x y k hx hy j g1 g2 => Int.dvd_add (hx j g1 g2) (Int.dvd_trans (hy j g1 g2) (Int.dvd_mul_left k _))⟩
  refine ⟨lat, fun j hj i _ hi => ?_, fun x hx => hx, fun c hc => ⟨fun j g1 g2 => ?_, fun j hj => ?_, ?_, fun x hx _ => ?_, fun j g1 g2 => ?_⟩, fun c hc => ⟨fun j hj => ?_, fun j hj => ?_, fun z j hj => ?_⟩⟩
  · rw [mr_e_at]; split
    · exact Int.dvd_refl M
    · exact mr_dvd_0 M
  · rw [hh c hc j g2]; split
    · rw [if_neg (by omega)]; exact Int.dvd_refl M
    · exact mr_dvd_0 M
  · rw [hh c hc j (by omega), if_neg (by omega)]
  · rw [hh c hc c hc, if_pos rfl]; split <;> omega
  · rw [hh c hc c hc, if_pos rfl]; split
    · exact ⟨x c, by omega⟩
    · exact hx c (by omega) hc
  · rw [hh c hc j g2, if_neg (by omega), hh j g2 j g2, if_pos rfl]; split <;> omega
  · rw [hF c j hc hj]; split <;> omega
  · rw [hF c j hc (by omega), if_neg (by omega)]
  · rw [hF c c hc hc] at z
    rw [hF c j hc hj]
    by_cases q : c < w
    · rw [if_pos ⟨q, rfl⟩] at z; omega
    · rw [if_neg (fun y => q y.1)]
theorem cs_feed {w : mr_Wd} (h : mr_IV w) {a1 : Int} (h_a1 : InR a1) {a2 : Int} (h_a2 : InR a2) {a3 : Int} (h_a3 : InR a3) {a4 : Int} (h_a4 : InR a4) {a5 : Int} (h_a5 : InR a5) : T_X6_feed [vR 0 0, vI a1, vI a2, vI a3, vI a4, vI a5] w (fun r w1 => T_X7_feed [vR 18 0, vI a1, vI a2, vI a3, vI a4, vI a5] w1 (fun r2 w2 => mr_EQ r r2 w2)) := by
  obtain ⟨n0, nx, ct, fk, g, f, im, S, I, th, tp, sz, zo, fr, kd, nb, ft, pl, wd, sm, md, li, sd, T, N, R, K, Sn, ik, s1, s2, ls, hX, hM, hC, h28⟩ := h
  obtain ⟨c1, c2, c3, c4, ⟨c5, c6⟩, c7, c8, c9⟩ := id hC
  obtain ⟨W, L, hNG, e0, e1, e2, hWC, hz, hf0⟩ := mr_OK_NG c4
  have hn0 : 0 ≤ n0 ∧ n0 ≤ 540 := hX.2.2.2.2.2.2.2.2.2.2.2.2.2.2.2.2.1
  have hnx : 0 ≤ nx ∧ nx < 8 := hX.2.2.2.2.2.2.2.2.2.2.2.2.2.2.2.2.2.2.1
  have hct : 0 ≤ ct ∧ ct ≤ 8 := hX.2.2.2.2.2.2.2.2.2.2.2.2.2.2.2.2.2.2.2.1
  refine ⟨n0, nx, ct, fk, g, f, im, S, I, a1, a2, a3, a4, a5, rfl, hX, ?_⟩
  refine ⟨fun hp w1 hX1 hF1 => ?_, fun hno => ?_⟩
  · refine ⟨_, _, _, _, _, _, _, _, _, _, _, _, _, _, _, _, _, _, _, _, _, _, _, a1, a2, a3, a4, a5, rfl, mr_MW_fr hF1 hM, (by omega), fun hq w2 hM2 hF2 => mr_EQ_of rfl rfl (by omega) (mr_iv (mr_o28 hF1 h28) hX1 hF2 hM2 ⟨by omega, ?_, c3, c4, ⟨c5, c6⟩, c7, c8, c9⟩), fun hno => by omega⟩
    subst c1
    have t1 := mr_byte_s hn0.1 c2 a1
    have t2 := mr_byte_s (show 0 ≤ tp + 4 by omega) t1 a2
    have t3 := mr_byte_s (show 0 ≤ tp + 4 + 4 by omega) t2 a3
    have t4 := mr_byte_s (show 0 ≤ tp + 4 + 4 + 4 by omega) t3 a4
    have t5 := mr_byte_s (show 0 ≤ tp + 4 + 4 + 4 + 4 by omega) t4 a5
    intro j hj
    rw [← t5 j (by omega)]
    rw [show tp + 1 + 1 + 1 + 1 = tp + 4 by omega, show tp + 4 + 1 + 1 + 1 + 1 = tp + 4 + 4 by omega, show tp + 4 + 4 + 1 + 1 + 1 + 1 = tp + 4 + 4 + 4 by omega, show tp + 4 + 4 + 4 + 1 + 1 + 1 + 1 = tp + 4 + 4 + 4 + 4 by omega]
  · exact ⟨_, _, _, _, _, _, _, _, _, _, _, _, _, _, _, _, _, _, _, _, _, _, _, a1, a2, a3, a4, a5, rfl, hM, (by omega), fun hq => by omega, fun _ w2 hM2 hF2 => mr_EQ_of rfl rfl rfl (mr_iv h28 hX hF2 hM2 hC)⟩
theorem cs_text {w : mr_Wd} (h : mr_IV w) : T_X6_text [vR 0 0] w (fun r w1 => T_X7_text [vR 18 0] w1 (fun r2 w2 => mr_EQ r r2 w2)) := by
  obtain ⟨n0, nx, ct, fk, g, f, im, S, I, th, tp, sz, zo, fr, kd, nb, ft, pl, wd, sm, md, li, sd, T, N, R, K, Sn, ik, s1, s2, ls, hX, hM, hC, h28⟩ := h
  obtain ⟨c1, c2, c3, c4, ⟨c5, c6⟩, c7, c8, c9⟩ := id hC
  obtain ⟨W, L, hNG, e0, e1, e2, hWC, hz, hf0⟩ := mr_OK_NG c4
  have hn0 : 0 ≤ n0 ∧ n0 ≤ 540 := hX.2.2.2.2.2.2.2.2.2.2.2.2.2.2.2.2.1
  have hnx : 0 ≤ nx ∧ nx < 8 := hX.2.2.2.2.2.2.2.2.2.2.2.2.2.2.2.2.2.2.1
  have hct : 0 ≤ ct ∧ ct ≤ 8 := hX.2.2.2.2.2.2.2.2.2.2.2.2.2.2.2.2.2.2.2.1
  subst c1
  refine ⟨tp, nx, ct, fk, g, f, im, S, I, rfl, hX, ?_⟩
  generalize hr : mr_ps tp g = r
  cases r with
  | inl e =>
    intro w1 hX1 hF1
    refine ⟨_, _, _, _, _, _, _, _, _, _, _, _, _, _, _, _, _, _, _, _, _, _, _, g, rfl, mr_MW_fr hF1 hM, hn0, c2, c8, c9, fun w2 zo' fr' kd' nb' wd' md' li' a b R' s1' ls' he hnb hwd hM2 hF2 => ?_, fun w2 zo' fr' kd' nb' wd' md' li' ln' R' s1' ls' f' he => ?_⟩
    · rw [hr] at he
      cases he
      exact mr_EQ_of rfl rfl rfl (mr_iv (mr_o28 hF1 h28) hX1 hF2 hM2 ⟨rfl, fun j hj => by omega, rfl, c4, ⟨c5, c6⟩, c7, hnb, hwd⟩)
    · rw [hr] at he; cases he
  | inr q =>
    intro w1 hX1 hF1
    refine ⟨_, _, _, _, _, _, _, _, _, _, _, _, _, _, _, _, _, _, _, _, _, _, _, g, rfl, mr_MW_fr hF1 hM, hn0, c2, c8, c9, fun w2 zo' fr' kd' nb' wd' md' li' a b R' s1' ls' he => ?_, fun w2 zo' fr' kd' nb' wd' md' li' ln' R' s1' ls' f' he hRq hnb hwd hM2 hF2 => ?_⟩
    · rw [hr] at he; cases he
    · rw [hr] at he
      cases he
      refine mr_EQ_of rfl rfl rfl (mr_iv (mr_o28 hF1 h28) hX1 hF2 hM2 ⟨rfl, fun j hj => by omega, rfl, ?_, ⟨rfl, fun j hj => by omega⟩, c7, hnb, hwd⟩)
      have hcp : ∀ k : Nat, k < 21 → mr_cp R' 0 N 0 k = R' k := fun k hk => by rw [mr_cp_at, if_pos ⟨by omega, by omega⟩]; congr 1; omega
      rcases hRq with ⟨q1, q2, q3⟩ | ⟨q1, M, W9, L9, q2, q3⟩
      · exact mr_OK_cg (N := R') (Or.inl ⟨q3 0, q3 1, q3 2, q2 0 (by decide), q2 1 (by decide), q2 14 (by decide)⟩) hcp
      · exact mr_OK_cg (N := R') (Or.inr ⟨M, W9, L9, q2, q3⟩) hcp
theorem cs_come {w : mr_Wd} (h : mr_IV w) {p : Int} (h_p : InR p) {x : Int} (h_x : InR x) {y : Int} (h_y : InR y) {z : Int} (h_z : InR z) : T_X6_come [vR 0 0, vI p, vI x, vI y, vI z] w (fun r w1 => T_X7_come [vR 18 0, vI p, vI x, vI y, vI z] w1 (fun r2 w2 => mr_EQ r r2 w2)) := by
  obtain ⟨n0, nx, ct, fk, g, f, im, S, I, th, tp, sz, zo, fr, kd, nb, ft, pl, wd, sm, md, li, sd, T, N, R, K, Sn, ik, s1, s2, ls, hX, hM, hC, h28⟩ := h
  obtain ⟨c1, c2, c3, c4, ⟨c5, c6⟩, c7, c8, c9⟩ := id hC
  obtain ⟨W, L, hNG, e0, e1, e2, hWC, hz, hf0⟩ := mr_OK_NG c4
  have hn0 : 0 ≤ n0 ∧ n0 ≤ 540 := hX.2.2.2.2.2.2.2.2.2.2.2.2.2.2.2.2.1
  have hnx : 0 ≤ nx ∧ nx < 8 := hX.2.2.2.2.2.2.2.2.2.2.2.2.2.2.2.2.2.2.1
  have hct : 0 ≤ ct ∧ ct ≤ 8 := hX.2.2.2.2.2.2.2.2.2.2.2.2.2.2.2.2.2.2.2.1
  have hrow : 0 < f 0 → ∀ (t : Int) (c : Int), 0 ≤ t → t ≤ 3 → 0 ≤ c → c < 3 → mr_nf N t c = mr_ec (f 0) (mr_br f t c.toNat) ∧ mr_box (f 0) (mr_br f t c.toNat) ∧ (∀ j : Nat, (j : Int) < c → mr_br f t c.toNat j = 0) ∧ (mr_fa f t c c = 0 → ∀ j : Nat, j < 3 → mr_br f t c.toNat j = 0) := fun hp t c g1 g2 g3 g4 => by
    obtain ⟨hW, hCq⟩ := hWC hp
    have hF := hW.2.2.2.2.2.1 t g1 (by omega)
    have b := hF.2.2.2.2 c.toNat (by omega)
    refine ⟨hCq.2.2.2.1 t c g1 g2 g3 g4, mr_Fo_box hF (by omega), fun j hj => b.2.1 j (by omega), fun z j hj => b.2.2 (by show mr_fa f t (c.toNat : Int) (c.toNat : Int) = 0; rw [Int.toNat_of_nonneg g3]; exact z) j hj⟩
  have hf13 : 0 < f 0 → 1 ≤ f 1 ∧ f 1 ≤ 3 := fun hp => by have := (hWC hp).1.2.1; have := (hWC hp).1.2.2.2.1; omega
  have hrw : (mr_pk f p ∧ mr_ro f x y z) ↔ ((0 < N 0 ∧ 0 ≤ p ∧ p ≤ 3) ∧ ((0 ≤ x ∧ x < N 0) ∧ (0 ≤ y ∧ y < N 0) ∧ (0 ≤ z ∧ z < N 0) ∧ (N 1 < 2 → y = 0) ∧ (N 1 < 3 → z = 0))) := by
    by_cases q : 0 < f 0
    · rw [mr_ro_e e0 e1 q (hf13 q)]
      exact and_congr_left fun _ => by unfold mr_pk; omega
    · exact ⟨fun h => absurd h.1.1 q, fun h => absurd h.1.1 (by omega)⟩
  refine ⟨n0, nx, ct, fk, g, f, im, S, I, p, x, y, z, rfl, hX, h_p, h_x, h_y, h_z, ?_⟩
  refine ⟨fun hp w1 hX1 hF1 => ?_, fun hno => ?_⟩
  · obtain ⟨hW, hCq⟩ := hWC hp.1.1
    have hro := (hrw.mp hp).2
    have hw := hW.2.1
    obtain ⟨bx, ex⟩ := mr_l3_box (M := f 0) (by omega) (by omega) (show 0 ≤ z ∧ z < f 0 by omega) (x := x) (y := y)
    have hWB := mr_WB_abs (r := mr_l3 x y z) hW (p := p) hp.1.2 (fun j g1 g2 => by
      rcases (show j = 0 ∨ j = 1 ∨ j = 2 by omega) with e | e | e <;> subst e
      · have := hW.2.2.2.1; omega
      · have : y = 0 := hro.2.2.2.1 (by omega)
        show f 0 ∣ y; rw [this]; exact mr_dvd_0 _
      · have : z = 0 := hro.2.2.2.2 (by omega)
        show f 0 ∣ z; rw [this]; exact mr_dvd_0 _)
    have cg : ∀ v : mr_V, mr_LA (L p) (mr_l3 x y z) v ↔ mr_LA (L p) (mr_dec (f 0) ((x * f 0 + y) * f 0 + z)) v := fun v => mr_LA_cg (fun _ => Iff.rfl) (hW.2.2.2.2.2.1 p hp.1.2.1 hp.1.2.2).1 (fun j hj => by rw [← ex]; exact (mr_dec_ec_box (by omega) bx j hj).symm) v
    refine ⟨_, _, _, _, _, _, _, _, _, _, _, _, _, _, _, _, _, _, _, _, _, _, _, W, L, mr_br (mr_abs f (mr_l3 x y z) p mr_Zz mr_Zz) p, p, x, y, z, rfl, mr_MW_fr hF1 hM, hNG, (by omega), h_p, h_x, h_y, h_z, (fun _ => by rw [e0]; exact mr_Fo_congr cg (mr_act_Fo hWB hp.1.2)), fun hq w2 Sn' st' li' s2' sm' n hsn hl hM2 hF2 => mr_EQ_of rfl rfl ?_ (mr_iv (mr_o28 hF1 h28) hX1 hF2 hM2 (mr_CI_act hX hC hsn (by rw [e0]; exact Or.inr ⟨_, _, _, hWB, mr_Cq_abs hW hCq hp.1.2⟩))), fun hno => absurd (hrw.mp hp) hno⟩
    rw [e0] at hl
    exact mr_act_sz hWB hp.1.2 (mr_Lp_cg hl (fun r _ _ => (cg _).symm))
  · exact ⟨_, _, _, _, _, _, _, _, _, _, _, _, _, _, _, _, _, _, _, _, _, _, _, W, L, fun _ _ => 0, p, x, y, z, rfl, hM, hNG, (by omega), h_p, h_x, h_y, h_z, (fun hq => absurd (hrw.mpr hq) hno), fun hq => absurd (hrw.mpr hq) hno, fun _ w2 hM2 hF2 => mr_EQ_of rfl rfl rfl (mr_iv h28 hX hF2 hM2 hC)⟩
theorem cs_clear {w : mr_Wd} (h : mr_IV w) {p : Int} (h_p : InR p) {b : Int} (h_b : InR b) : T_X6_clear [vR 0 0, vI p, vI b] w (fun r w1 => T_X7_clear [vR 18 0, vI p, vI b] w1 (fun r2 w2 => mr_EQ r r2 w2)) := by
  obtain ⟨n0, nx, ct, fk, g, f, im, S, I, th, tp, sz, zo, fr, kd, nb, ft, pl, wd, sm, md, li, sd, T, N, R, K, Sn, ik, s1, s2, ls, hX, hM, hC, h28⟩ := h
  obtain ⟨c1, c2, c3, c4, ⟨c5, c6⟩, c7, c8, c9⟩ := id hC
  obtain ⟨W, L, hNG, e0, e1, e2, hWC, hz, hf0⟩ := mr_OK_NG c4
  have hn0 : 0 ≤ n0 ∧ n0 ≤ 540 := hX.2.2.2.2.2.2.2.2.2.2.2.2.2.2.2.2.1
  have hnx : 0 ≤ nx ∧ nx < 8 := hX.2.2.2.2.2.2.2.2.2.2.2.2.2.2.2.2.2.2.1
  have hct : 0 ≤ ct ∧ ct ≤ 8 := hX.2.2.2.2.2.2.2.2.2.2.2.2.2.2.2.2.2.2.2.1
  refine ⟨n0, nx, ct, fk, g, f, im, S, I, p, b, rfl, hX, h_p, h_b, ?_⟩
  refine ⟨fun hp w1 hX1 hF1 => ?_, fun hno => ?_⟩
  · obtain ⟨hW, hCq⟩ := hWC hp.1
    have hw := hW.2.1
    have hw3 := hW.2.2.2.1
    have hM2' := hW.2.2.1
    have hFp := hW.2.2.2.2.2.1 p hp.2.1 hp.2.2
    have hF : ∀ c j, c < 3 → j < 3 → mr_br (mr_pA f p (fun c a => if a = c then (if b ≠ 0 then 1 else 0) else 0)) p c j = if c < W ∧ j = c then (if b ≠ 0 then 1 else 0) else 0 := fun c j hc hj => by
      unfold mr_br
      rw [mr_fa_pA hp.2 (by omega)]
      by_cases q : c < W ∧ j < W
      · rw [if_pos ⟨rfl, by omega, by omega, by omega, by omega⟩]
        by_cases e : j = c
        · rw [if_pos (show (j : Int) = (c : Int) by omega), if_pos (show c < W ∧ j = c from ⟨q.1, e⟩)]
        · rw [if_neg (show ¬ (j : Int) = (c : Int) by omega), if_neg (show ¬ (c < W ∧ j = c) from fun z => e z.2)]
      · rw [if_neg (by omega)]
        have z0 : mr_fa f p c j = 0 := mr_Fo_zero hFp hc hj (by omega)
        rw [z0]
        by_cases e : c < W ∧ j = c
        · omega
        · rw [if_neg e]
    obtain ⟨Lt, hFo, hQ⟩ : ∃ Lt : mr_V → Prop, mr_Fo (f 0) W (mr_br (mr_pA f p (fun c a => if a = c then (if b ≠ 0 then 1 else 0) else 0)) p) Lt ∧ ∀ r : Int, 0 ≤ r → r < f 0 * f 0 * f 0 → ((r = 0 ∨ (b ≠ 0 ∧ r % mr_stp N = 0)) ↔ mr_S (f 0) Lt r) := by
      by_cases q : b = 0
      · refine ⟨mr_L0 (f 0), mr_Fo_0 (by omega) (fun c j hc hj => by rw [hF c j hc hj]; split; exact if_neg (fun z => z q); rfl), fun r h1 h2 => ?_⟩
        rw [mr_S_L0 (by omega) h1 h2]
        exact ⟨fun z => z.elim id (fun y => absurd q y.1), fun z => Or.inl z⟩
      · refine ⟨_, mr_Fo_all hM2'.1 (fun c j hc hj => by rw [hF c j hc hj, if_pos q]), fun r h1 h2 => ?_⟩
        have ir := mr_isrow (N := N) (M := f 0) (w := W) (by omega) e0 (by omega) hw3 ⟨h1, h2⟩
        have bx := mr_dec_box (M := f 0) (by omega) h1 h2
        refine ⟨fun z j g1 g2 => ?_, fun z => Or.inr ⟨q, ir.mpr (fun j g1 g2 => mr_dvd_small (z j g1 g2) (by have := bx j g2; omega) (by have := bx j g2; omega))⟩⟩
        rcases z with z | z
        · rw [z, mr_dec_z]; exact mr_dvd_0 _
        · rw [ir.mp z.2 j g1 g2]; exact mr_dvd_0 _
    have hWB := mr_WB_put hW hp.2 hFo
    refine ⟨_, _, _, _, _, _, _, _, _, _, _, _, _, _, _, _, _, _, _, _, _, _, _, W, L, mr_br (mr_pA f p (fun c a => if a = c then (if b ≠ 0 then 1 else 0) else 0)) p, Lt, p, b, rfl, mr_MW_fr hF1 hM, hNG, (by omega), h_p, h_b, (fun _ => by rw [e0]; exact hFo), (fun _ r g1 g2 => by rw [e0] at g2 ⊢; exact hQ r g1 g2), fun hq w2 Sn' st' li' s2' sm' n hsn hl hM2 hF2 => mr_EQ_of rfl rfl ?_ (mr_iv (mr_o28 hF1 h28) hX1 hF2 hM2 (mr_CI_act hX hC hsn (by rw [e0]; exact mr_OK_kf hW hCq hp.2 hWB))), fun hno => absurd ⟨by omega, by omega, by omega⟩ hno⟩
    rw [e0] at hl
    exact mr_act_sz hWB hp.2 hl
  · exact ⟨_, _, _, _, _, _, _, _, _, _, _, _, _, _, _, _, _, _, _, _, _, _, _, W, L, fun _ _ => 0, fun _ => True, p, b, rfl, hM, hNG, (by omega), h_p, h_b, (fun hq => absurd ⟨by omega, by omega, by omega⟩ hno), (fun hq => absurd ⟨by omega, by omega, by omega⟩ hno), fun hq => absurd ⟨by omega, by omega, by omega⟩ hno, fun _ w2 hM2 hF2 => mr_EQ_of rfl rfl rfl (mr_iv h28 hX hF2 hM2 hC)⟩
