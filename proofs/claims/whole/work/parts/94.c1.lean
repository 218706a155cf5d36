theorem mr_ro_e {f N : Nat → Int} (e0 : N 0 = f 0) (e1 : N 1 = f 1) (h0 : 0 < f 0) (h1 : 1 ≤ f 1 ∧ f 1 ≤ 3) {x y z : Int} : mr_ro f x y z ↔ ((0 ≤ x ∧ x < N 0) ∧ (0 ≤ y ∧ y < N 0) ∧ (0 ≤ z ∧ z < N 0) ∧ (N 1 < 2 → y = 0) ∧ (N 1 < 3 → z = 0)) := by
  rw [e0, e1]
  constructor
  · intro h; omega
  · intro h; omega
theorem mr_l3_box {M x y z : Int} (hx : 0 ≤ x ∧ x < M) (hy : 0 ≤ y ∧ y < M) (hz : 0 ≤ z ∧ z < M) : mr_box M (mr_l3 x y z) ∧ mr_ec M (mr_l3 x y z) = (x * M + y) * M + z := by
  have b : mr_box M (mr_l3 x y z) := fun j hj => by
    rcases (show j = 0 ∨ j = 1 ∨ j = 2 by omega) with e | e | e <;> subst e
    · exact hx
    · exact hy
    · exact hz
  exact ⟨b, by rw [mr_ec_box b]; rfl⟩
theorem mr_ba_lt {n n' : Int} {g : Nat → Int} {j : Nat} (h : (j : Int) < n) (h' : (j : Int) < n') : mr_ba n g j = mr_ba n' g j := by
  unfold mr_ba
  rw [if_pos ⟨by omega, h⟩, if_pos ⟨by omega, h'⟩]
/-- the number that leads a row of the form -/
theorem mr_lead_e {M : Int} (hM : 1 ≤ M) {x : mr_V} (hb : mr_box M x) {c : Int} (hc : 0 ≤ c ∧ c < 3) (hz : ∀ j : Nat, (j : Int) < c → x j = 0) : (if c = 0 then mr_ec M x / (M * M) else if c = 1 then mr_ec M x / M else mr_ec M x) = x c.toNat := by
  have hM0 : 0 < M := by omega
  have d0 := mr_dec_ec_box hM0 hb 0 (by decide)
  have d1 := mr_dec_ec_box hM0 hb 1 (by decide)
  rw [mr_dec_0] at d0
  have b1 := hb 1 (by decide)
  have b2 := hb 2 (by decide)
  rcases (show c = 0 ∨ c = 1 ∨ c = 2 by omega) with e | e | e <;> subst e
  · rw [if_pos rfl]; exact d0
  · rw [if_neg (by decide), if_pos rfl, mr_ec_box hb, hz 0 (by decide), Int.zero_mul, Int.zero_add]
    exact (mr_q2 hM0 b2).1
  · rw [if_neg (by decide), if_neg (by decide), mr_ec_box hb, hz 0 (by decide), hz 1 (by decide), Int.zero_mul, Int.zero_add, Int.zero_mul, Int.zero_add]
    rfl
theorem cs_fault {w : mr_Wd} (h : mr_IV w) : T_X6_fault [vR 0 0] w (fun r w1 => T_X7_fault [vR 18 0] w1 (fun r2 w2 => mr_EQ r r2 w2)) := by
  obtain ⟨n0, nx, ct, fk, g, f, im, S, I, th, tp, sz, zo, fr, kd, nb, ft, pl, wd, sm, md, li, sd, T, N, R, K, Sn, ik, s1, s2, ls, hX, hM, hC, h28⟩ := h
  obtain ⟨c1, c2, c3, c4, ⟨c5, c6⟩, c7, c8, c9⟩ := id hC
  obtain ⟨W, L, hNG, e0, e1, e2, hWC, hz, hf0⟩ := mr_OK_NG c4
  have hn0 : 0 ≤ n0 ∧ n0 ≤ 540 := hX.2.2.2.2.2.2.2.2.2.2.2.2.2.2.2.2.1
  have hnx : 0 ≤ nx ∧ nx < 8 := hX.2.2.2.2.2.2.2.2.2.2.2.2.2.2.2.2.2.2.1
  have hct : 0 ≤ ct ∧ ct ≤ 8 := hX.2.2.2.2.2.2.2.2.2.2.2.2.2.2.2.2.2.2.2.1
  refine ⟨n0, nx, ct, fk, g, f, im, S, I, rfl, hX, ?_⟩
  exact ⟨_, _, _, _, _, _, _, _, _, _, _, _, _, _, _, _, _, _, _, _, _, _, _, rfl, hM, fun w2 hM2 hF2 => mr_EQ_of rfl rfl c3 (mr_iv h28 hX hF2 hM2 hC)⟩
theorem cs_now {w : mr_Wd} (h : mr_IV w) {x : Int} (h_x : InR x) : T_X6_now [vR 0 0, vI x] w (fun r w1 => T_X7_now [vR 18 0, vI x] w1 (fun r2 w2 => mr_EQ r r2 w2)) := by
  obtain ⟨n0, nx, ct, fk, g, f, im, S, I, th, tp, sz, zo, fr, kd, nb, ft, pl, wd, sm, md, li, sd, T, N, R, K, Sn, ik, s1, s2, ls, hX, hM, hC, h28⟩ := h
  obtain ⟨c1, c2, c3, c4, ⟨c5, c6⟩, c7, c8, c9⟩ := id hC
  obtain ⟨W, L, hNG, e0, e1, e2, hWC, hz, hf0⟩ := mr_OK_NG c4
  have hn0 : 0 ≤ n0 ∧ n0 ≤ 540 := hX.2.2.2.2.2.2.2.2.2.2.2.2.2.2.2.2.1
  have hnx : 0 ≤ nx ∧ nx < 8 := hX.2.2.2.2.2.2.2.2.2.2.2.2.2.2.2.2.2.2.1
  have hct : 0 ≤ ct ∧ ct ≤ 8 := hX.2.2.2.2.2.2.2.2.2.2.2.2.2.2.2.2.2.2.2.1
  refine ⟨n0, nx, ct, fk, g, f, im, S, I, x, rfl, hX, h_x, ?_⟩
  exact ⟨_, _, _, _, _, _, _, _, _, _, _, _, _, _, _, _, _, _, _, _, _, _, _, x, rfl, hM, h_x, fun w2 hM2 hF2 => mr_EQ_of rfl rfl (by rw [e0, e1, e2, c5, c1]) (mr_iv h28 hX hF2 hM2 hC)⟩
theorem cs_end {w : mr_Wd} (h : mr_IV w) {x : Int} (h_x : InR x) : T_X6_end [vR 0 0, vI x] w (fun r w1 => T_X7_end [vR 18 0, vI x] w1 (fun r2 w2 => mr_EQ r r2 w2)) := by
  obtain ⟨n0, nx, ct, fk, g, f, im, S, I, th, tp, sz, zo, fr, kd, nb, ft, pl, wd, sm, md, li, sd, T, N, R, K, Sn, ik, s1, s2, ls, hX, hM, hC, h28⟩ := h
  obtain ⟨c1, c2, c3, c4, ⟨c5, c6⟩, c7, c8, c9⟩ := id hC
  obtain ⟨W, L, hNG, e0, e1, e2, hWC, hz, hf0⟩ := mr_OK_NG c4
  have hn0 : 0 ≤ n0 ∧ n0 ≤ 540 := hX.2.2.2.2.2.2.2.2.2.2.2.2.2.2.2.2.1
  have hnx : 0 ≤ nx ∧ nx < 8 := hX.2.2.2.2.2.2.2.2.2.2.2.2.2.2.2.2.2.2.1
  have hct : 0 ≤ ct ∧ ct ≤ 8 := hX.2.2.2.2.2.2.2.2.2.2.2.2.2.2.2.2.2.2.2.1
  refine ⟨n0, nx, ct, fk, g, f, im, S, I, x, rfl, hX, h_x, ?_⟩
  refine ⟨fun hx w1 hX1 hF1 => ?_, fun hx => ?_⟩
  · refine ⟨_, _, _, _, _, _, _, _, _, _, _, _, _, _, _, _, _, _, _, _, _, _, _, x, rfl, mr_MW_fr hF1 hM, (by omega), h_x, fun _ w2 hM2 hF2 => mr_EQ_of rfl rfl rfl (mr_iv (mr_o28 hF1 h28) hX1 hF2 hM2 ⟨rfl, fun j hj => (c2 j (by omega)).trans (mr_ba_lt (by omega) hj), c3, c4, ⟨c5, c6⟩, c7, c8, c9⟩), fun hno => absurd ⟨hx.1, by omega⟩ hno⟩
  · exact ⟨_, _, _, _, _, _, _, _, _, _, _, _, _, _, _, _, _, _, _, _, _, _, _, x, rfl, hM, (by omega), h_x, fun hy => absurd ⟨hy.1, by omega⟩ hx, fun _ w2 hM2 hF2 => mr_EQ_of rfl rfl rfl (mr_iv h28 hX hF2 hM2 hC)⟩
theorem cs_many {w : mr_Wd} (h : mr_IV w) {p : Int} (h_p : InR p) : T_X6_many [vR 0 0, vI p] w (fun r w1 => T_X7_many [vR 18 0, vI p] w1 (fun r2 w2 => mr_EQ r r2 w2)) := by
  obtain ⟨n0, nx, ct, fk, g, f, im, S, I, th, tp, sz, zo, fr, kd, nb, ft, pl, wd, sm, md, li, sd, T, N, R, K, Sn, ik, s1, s2, ls, hX, hM, hC, h28⟩ := h
  obtain ⟨c1, c2, c3, c4, ⟨c5, c6⟩, c7, c8, c9⟩ := id hC
  obtain ⟨W, L, hNG, e0, e1, e2, hWC, hz, hf0⟩ := mr_OK_NG c4
  have hn0 : 0 ≤ n0 ∧ n0 ≤ 540 := hX.2.2.2.2.2.2.2.2.2.2.2.2.2.2.2.2.1
  have hnx : 0 ≤ nx ∧ nx < 8 := hX.2.2.2.2.2.2.2.2.2.2.2.2.2.2.2.2.2.2.1
  have hct : 0 ≤ ct ∧ ct ≤ 8 := hX.2.2.2.2.2.2.2.2.2.2.2.2.2.2.2.2.2.2.2.1
  refine ⟨n0, nx, ct, fk, g, f, im, S, I, p, rfl, hX, h_p, ?_⟩
  refine ⟨_, _, _, _, _, _, _, _, _, _, _, _, _, _, _, _, _, _, _, _, _, _, _, W, L, p, rfl, hM, hNG, h_p, fun hp w2 st li' n hq hM2 hF2 => ?_, fun hno w2 hM2 hF2 => ?_⟩
  · rw [e0] at hq
    exact mr_EQ_of rfl rfl (by rw [if_pos ⟨by omega, by omega, by omega⟩]; exact mr_Lp_book (hWC (by omega)).1 ⟨by omega, by omega⟩ hq) (mr_iv h28 hX hF2 hM2 hC)
  · exact mr_EQ_of rfl rfl (by rw [if_neg (fun z => hno ⟨by omega, by omega, by omega⟩)]) (mr_iv h28 hX hF2 hM2 hC)
theorem cs_lead {w : mr_Wd} (h : mr_IV w) {p : Int} (h_p : InR p) {c : Int} (h_c : InR c) : T_X6_lead [vR 0 0, vI p, vI c] w (fun r w1 => T_X7_lead [vR 18 0, vI p, vI c] w1 (fun r2 w2 => mr_EQ r r2 w2)) := by
  obtain ⟨n0, nx, ct, fk, g, f, im, S, I, th, tp, sz, zo, fr, kd, nb, ft, pl, wd, sm, md, li, sd, T, N, R, K, Sn, ik, s1, s2, ls, hX, hM, hC, h28⟩ := h
  obtain ⟨c1, c2, c3, c4, ⟨c5, c6⟩, c7, c8, c9⟩ := id hC
  obtain ⟨W, L, hNG, e0, e1, e2, hWC, hz, hf0⟩ := mr_OK_NG c4
  have hn0 : 0 ≤ n0 ∧ n0 ≤ 540 := hX.2.2.2.2.2.2.2.2.2.2.2.2.2.2.2.2.1
  have hnx : 0 ≤ nx ∧ nx < 8 := hX.2.2.2.2.2.2.2.2.2.2.2.2.2.2.2.2.2.2.1
  have hct : 0 ≤ ct ∧ ct ≤ 8 := hX.2.2.2.2.2.2.2.2.2.2.2.2.2.2.2.2.2.2.2.1
  have hrow : 0 < f 0 → ∀ (t : Int) (c : Int), 0 ≤ t → t ≤ 3 → 0 ≤ c → c < 3 → mr_nf N t c = mr_ec (f 0) (mr_br f t c.toNat) ∧ mr_box (f 0) (mr_br f t c.toNat) ∧ (∀ j : Nat, (j : Int) < c → mr_br f t c.toNat j = 0) ∧ (mr_fa f t c c = 0 → ∀ j : Nat, j < 3 → mr_br f t c.toNat j = 0) := fun hp t c g1 g2 g3 g4 => by
    obtain ⟨hW, hCq⟩ := hWC hp
    have hF := hW.2.2.2.2.2.1 t g1 (by omega)
    have b := hF.2.2.2.2 c.toNat (by omega)
    refine ⟨hCq.2.2.2.1 t c g1 g2 g3 g4, mr_Fo_box hF (by omega), fun j hj => b.2.1 j (by omega), fun z j hj => b.2.2 (by show mr_fa f t (c.toNat : Int) (c.toNat : Int) = 0; rw [Int.toNat_of_nonneg g3]; exact z) j hj⟩
  have hf13 : 0 < f 0 → 1 ≤ f 1 ∧ f 1 ≤ 3 := fun hp => by have := (hWC hp).1.2.1; have := (hWC hp).1.2.2.2.1; omega
  refine ⟨n0, nx, ct, fk, g, f, im, S, I, p, c, rfl, hX, h_p, h_c, ?_⟩
  refine ⟨_, _, _, _, _, _, _, _, _, _, _, _, _, _, _, _, _, _, _, _, _, _, _, W, L, p, c, rfl, hM, hNG, h_p, h_c, fun hp w2 hM2 hF2 => ?_, fun hno w2 hM2 hF2 => ?_⟩
  · have hf := hf13 (by omega)
    obtain ⟨r1, r2, r3, r4⟩ := hrow (by omega) p c (by omega) (by omega) (by omega) (by omega)
    refine mr_EQ_of rfl rfl ?_ (mr_iv h28 hX hF2 hM2 hC)
    rw [if_pos (show mr_pk f p ∧ 0 ≤ c ∧ c < f 1 from ⟨⟨by omega, by omega, by omega⟩, by omega, by omega⟩), r1, e0, mr_lead_e (by omega) r2 ⟨by omega, by omega⟩ r3]
    show mr_fa f p (c.toNat : Int) (c.toNat : Int) = mr_fa f p c c
    rw [Int.toNat_of_nonneg (by omega)]
  · exact mr_EQ_of rfl rfl (by rw [if_neg (fun z => hno ⟨⟨by omega, by omega, by omega⟩, by omega, by omega⟩)]) (mr_iv h28 hX hF2 hM2 hC)
theorem cs_form {w : mr_Wd} (h : mr_IV w) {p : Int} (h_p : InR p) {c : Int} (h_c : InR c) : T_X6_form [vR 0 0, vI p, vI c] w (fun r w1 => T_X7_form [vR 18 0, vI p, vI c] w1 (fun r2 w2 => mr_EQ r r2 w2)) := by
  obtain ⟨n0, nx, ct, fk, g, f, im, S, I, th, tp, sz, zo, fr, kd, nb, ft, pl, wd, sm, md, li, sd, T, N, R, K, Sn, ik, s1, s2, ls, hX, hM, hC, h28⟩ := h
  obtain ⟨c1, c2, c3, c4, ⟨c5, c6⟩, c7, c8, c9⟩ := id hC
  obtain ⟨W, L, hNG, e0, e1, e2, hWC, hz, hf0⟩ := mr_OK_NG c4
  have hn0 : 0 ≤ n0 ∧ n0 ≤ 540 := hX.2.2.2.2.2.2.2.2.2.2.2.2.2.2.2.2.1
  have hnx : 0 ≤ nx ∧ nx < 8 := hX.2.2.2.2.2.2.2.2.2.2.2.2.2.2.2.2.2.2.1
  have hct : 0 ≤ ct ∧ ct ≤ 8 := hX.2.2.2.2.2.2.2.2.2.2.2.2.2.2.2.2.2.2.2.1
  have hrow : 0 < f 0 → ∀ (t : Int) (c : Int), 0 ≤ t → t ≤ 3 → 0 ≤ c → c < 3 → mr_nf N t c = mr_ec (f 0) (mr_br f t c.toNat) ∧ mr_box (f 0) (mr_br f t c.toNat) ∧ (∀ j : Nat, (j : Int) < c → mr_br f t c.toNat j = 0) ∧ (mr_fa f t c c = 0 → ∀ j : Nat, j < 3 → mr_br f t c.toNat j = 0) := fun hp t c g1 g2 g3 g4 => by
    obtain ⟨hW, hCq⟩ := hWC hp
    have hF := hW.2.2.2.2.2.1 t g1 (by omega)
    have b := hF.2.2.2.2 c.toNat (by omega)
    refine ⟨hCq.2.2.2.1 t c g1 g2 g3 g4, mr_Fo_box hF (by omega), fun j hj => b.2.1 j (by omega), fun z j hj => b.2.2 (by show mr_fa f t (c.toNat : Int) (c.toNat : Int) = 0; rw [Int.toNat_of_nonneg g3]; exact z) j hj⟩
  have hf13 : 0 < f 0 → 1 ≤ f 1 ∧ f 1 ≤ 3 := fun hp => by have := (hWC hp).1.2.1; have := (hWC hp).1.2.2.2.1; omega
  refine ⟨n0, nx, ct, fk, g, f, im, S, I, p, c, rfl, hX, h_p, h_c, ?_⟩
  have key : (mr_pk f p ∧ 0 ≤ c ∧ c < f 1) → (mr_fa f p c c ≠ 0 ↔ mr_nf N p c ≠ 0) := fun hp => by
    have hf := hf13 hp.1.1
    obtain ⟨r1, r2, r3, r4⟩ := hrow hp.1.1 p c (by omega) (by omega) (by omega) (by omega)
    have a := mr_lead_e (M := f 0) (by omega) r2 ⟨by omega, by omega⟩ r3
    have b : mr_br f p c.toNat c.toNat = mr_fa f p c c := by show mr_fa f p (c.toNat : Int) (c.toNat : Int) = mr_fa f p c c; rw [Int.toNat_of_nonneg (by omega)]
    rw [b] at a
    refine not_congr ⟨fun z => ?_, fun z => ?_⟩
    · rw [r1, mr_ec_cg (y := fun _ => 0) (fun j hj => by rw [r4 z j hj]; exact mr_dvd_same _ _), mr_ec_z]
    · rw [r1] at z
      rw [z, Int.zero_ediv, Int.zero_ediv] at a
      rw [← a]
      split
      · rfl
      · split <;> rfl
  refine ⟨fun hp w1 hX1 hF1 => ?_, fun hno => ?_⟩
  · have hf := hf13 hp.1.1.1
    obtain ⟨r1, r2, r3, r4⟩ := hrow hp.1.1.1 p c (by omega) (by omega) (by omega) (by omega)
    refine ⟨_, _, _, _, _, _, _, _, _, _, _, _, _, _, _, _, _, _, _, _, _, _, _, W, L, p, c, rfl, mr_MW_fr hF1 hM, hNG, h_p, h_c, fun hq w2 hM2 hF2 => mr_EQ_of rfl rfl ?_ (mr_iv (mr_o28 hF1 h28) hX1 hF2 hM2 hC), fun hno => absurd ⟨⟨⟨by omega, by omega, by omega⟩, by omega, by omega⟩, (key hp.1).mp hp.2⟩ hno⟩
    rw [r1, e0, mr_tbk_box (by omega) r2]
    show mr_tb (fun j => mr_fa f p (c.toNat : Int) j) = _
    rw [Int.toNat_of_nonneg (by omega)]
  · exact ⟨_, _, _, _, _, _, _, _, _, _, _, _, _, _, _, _, _, _, _, _, _, _, _, W, L, p, c, rfl, hM, hNG, h_p, h_c, fun hq => absurd ⟨⟨⟨by omega, by omega, by omega⟩, by omega, by omega⟩, (key ⟨⟨by omega, by omega, by omega⟩, by omega, by omega⟩).mpr hq.2⟩ hno, fun _ w2 hM2 hF2 => mr_EQ_of rfl rfl rfl (mr_iv h28 hX hF2 hM2 hC)⟩
theorem cs_rank {w : mr_Wd} (h : mr_IV w) {p : Int} (h_p : InR p) {x : Int} (h_x : InR x) {y : Int} (h_y : InR y) {z : Int} (h_z : InR z) : T_X6_rank [vR 0 0, vI p, vI x, vI y, vI z] w (fun r w1 => T_X7_rank [vR 18 0, vI p, vI x, vI y, vI z] w1 (fun r2 w2 => mr_EQ r r2 w2)) := by
  obtain ⟨n0, nx, ct, fk, g, f, im, S, I, th, tp, sz, zo, fr, kd, nb, ft, pl, wd, sm, md, li, sd, T, N, R, K, Sn, ik, s1, s2, ls, hX, hM, hC, h28⟩ := h
  obtain ⟨c1, c2, c3, c4, ⟨c5, c6⟩, c7, c8, c9⟩ := id hC
  obtain ⟨W, L, hNG, e0, e1, e2, hWC, hz, hf0⟩ := mr_OK_NG c4
  have hn0 : 0 ≤ n0 ∧ n0 ≤ 540 := hX.2.2.2.2.2.2.2.2.2.2.2.2.2.2.2.2.1
  have hnx : 0 ≤ nx ∧ nx < 8 := hX.2.2.2.2.2.2.2.2.2.2.2.2.2.2.2.2.2.2.1
  have hct : 0 ≤ ct ∧ ct ≤ 8 := hX.2.2.2.2.2.2.2.2.2.2.2.2.2.2.2.2.2.2.2.1
  have hrow : 0 < f 0 → ∀ (t : Int) (c : Int), 0 ≤ t → t ≤ 3 → 0 ≤ c → c < 3 → mr_nf N t c = mr_ec (f 0) (mr_br f t c.toNat) ∧ mr_box (f 0) (mr_br f t c.toNat) ∧ (∀ j : Nat, (j : Int) < c → mr_br f t c.toNat j = 0) ∧ (mr_fa f t c c = 0 → ∀ j : Nat, j < 3 → mr_br f t c.toNat j = 0) := fun hp t c g1 g2 g3 g4 => by
    obtain ⟨hW, hCq⟩ := hWC hp
    have hF := hW.2.2.2.2.2.1 t g1 (by omega)
    have b := hF.2.2.2.2 c.toNat (by omega)
    refine ⟨hCq.2.2.2.1 t c g1 g2 g3 g4, mr_Fo_box hF (by omega), fun j hj => b.2.1 j (by omega), fun z j hj => b.2.2 (by show mr_fa f t (c.toNat : Int) (c.toNat : Int) = 0; rw [Int.toNat_of_nonneg g3]; exact z) j hj⟩
  have hf13 : 0 < f 0 → 1 ≤ f 1 ∧ f 1 ≤ 3 := fun hp => by have := (hWC hp).1.2.1; have := (hWC hp).1.2.2.2.1; omega
  have hrw : (mr_pk f p ∧ mr_ro f x y z) ↔ ((0 < N 0 ∧ 0 ≤ p ∧ p ≤ 3) ∧ ((0 ≤ x ∧ x < N 0) ∧ (0 ≤ y ∧ y < N 0) ∧ (0 ≤ z ∧ z < N 0) ∧ (N 1 < 2 → y = 0) ∧ (N 1 < 3 → z = 0))) := by
    by_cases q : 0 < f 0
    · rw [mr_ro_e e0 e1 q (hf13 q)]
      exact and_congr_left fun _ => by unfold mr_pk; omega
    · exact ⟨fun h => absurd h.1.1 q, fun h => absurd h.1.1 (by omega)⟩
  refine ⟨n0, nx, ct, fk, g, f, im, S, I, p, x, y, z, rfl, hX, h_p, h_x, h_y, h_z, ?_⟩
  have main : (mr_pk f p ∧ mr_ro f x y z) → ∀ (w1 : mr_Wd), mr_XS w1 (n0, g, f, nx, ct, S, I, im, fk) → mr_Fr w w1 → ∀ v : Int, (mr_mem0 f p (mr_l3 x y z) → v = mr_cal f p (mr_l3 x y z) 3 0 0) → (¬ mr_mem0 f p (mr_l3 x y z) → v = -1) → T_X7_rank [vR 18 0, vI p, vI x, vI y, vI z] w1 (fun r2 w2 => mr_EQ (some (vI v)) r2 w2) := fun hp w1 hX1 hF1 v hv1 hv2 => by
    obtain ⟨hW, hCq⟩ := hWC hp.1.1
    have hF := hW.2.2.2.2.2.1 p hp.1.2.1 hp.1.2.2
    have hro := (hrw.mp hp).2
    obtain ⟨bx, ex⟩ := mr_l3_box (M := f 0) (by omega) (by omega) (show 0 ≤ z ∧ z < f 0 by omega) (x := x) (y := y)
    have hM1 : 1 ≤ f 0 := by omega
    have mem := mr_mem_e hM1 rfl hW.2.1 hW.2.2.2.1 hF bx
    refine ⟨_, _, _, _, _, _, _, _, _, _, _, _, _, _, _, _, _, _, _, _, _, _, _, W, L, p, x, y, z, rfl, mr_MW_fr hF1 hM, hNG, h_p, h_x, h_y, h_z, fun hq w2 st li' n hl hM2 hF2 => ?_, fun hno => absurd (hrw.mp hp) hno⟩
    rw [e0] at hl ⊢
    rw [← ex]
    have hin : st (mr_ec (f 0) (mr_l3 x y z)).toNat = 1 ↔ L p (mr_l3 x y z) := (mr_St_at (mr_Lp_St hl) (mr_ec_bd (by omega) _).1 (mr_ec_bd (by omega) _).2).trans (mr_S_ec (by omega) hF.1 hF.2.1 _)
    refine ⟨fun q => mr_EQ_of rfl rfl ?_ (mr_iv (mr_o28 hF1 h28) hX1 hF2 hM2 hC), fun q => mr_EQ_of rfl rfl ?_ (mr_iv (mr_o28 hF1 h28) hX1 hF2 hM2 hC)⟩
    · rw [hv1 (mem.mpr (hin.mp q)), mr_cal_e hM1 rfl hW.2.1 hW.2.2.2.1 hF bx]
      exact mr_Lp_rk hM1 hF (mr_Lp_St hl) bx (hin.mp q)
    · exact (hv2 (fun zz => q (hin.mpr (mem.mp zz)))).symm
  refine ⟨fun hp hm w1 hX1 hF1 => main hp w1 hX1 hF1 _ (fun _ => rfl) (fun zz => absurd hm zz), fun hp hm w1 hX1 hF1 => main hp w1 hX1 hF1 _ (fun zz => absurd zz hm) (fun _ => rfl), fun hno => ?_⟩
  exact ⟨_, _, _, _, _, _, _, _, _, _, _, _, _, _, _, _, _, _, _, _, _, _, _, W, L, p, x, y, z, rfl, hM, hNG, h_p, h_x, h_y, h_z, fun hq => absurd (hrw.mpr hq) hno, fun _ w2 hM2 hF2 => mr_EQ_of rfl rfl rfl (mr_iv h28 hX hF2 hM2 hC)⟩
theorem cs_beside {w : mr_Wd} (h : mr_IV w) {p : Int} (h_p : InR p) {x : Int} (h_x : InR x) {y : Int} (h_y : InR y) {z : Int} (h_z : InR z) : T_X6_beside [vR 0 0, vI p, vI x, vI y, vI z] w (fun r w1 => T_X7_beside [vR 18 0, vI p, vI x, vI y, vI z] w1 (fun r2 w2 => mr_EQ r r2 w2)) := by
  obtain ⟨n0, nx, ct, fk, g, f, im, S, I, th, tp, sz, zo, fr, kd, nb, ft, pl, wd, sm, md, li, sd, T, N, R, K, Sn, ik, s1, s2, ls, hX, hM, hC, h28⟩ := h
  obtain ⟨c1, c2, c3, c4, ⟨c5, c6⟩, c7, c8, c9⟩ := id hC
  obtain ⟨W, L, hNG, e0, e1, e2, hWC, hz, hf0⟩ := mr_OK_NG c4
  have hn0 : 0 ≤ n0 ∧ n0 ≤ 540 := hX.2.2.2.2.2.2.2.2.2.2.2.2.2.2.2.2.1
  have hnx : 0 ≤ nx ∧ nx < 8 := hX.2.2.2.2.2.2.2.2.2.2.2.2.2.2.2.2.2.2.1
  have hct : 0 ≤ ct ∧ ct ≤ 8 := hX.2.2.2.2.2.2.2.2.2.2.2.2.2.2.2.2.2.2.2.1
  have hrow : 0 < f 0 → ∀ (t : Int) (c : Int), 0 ≤ t → t ≤ 3 → 0 ≤ c → c < 3 → mr_nf N t c = mr_ec (f 0) (mr_br f t c.toNat) ∧ mr_box (f 0) (mr_br f t c.toNat) ∧ (∀ j : Nat, (j : Int) < c → mr_br f t c.toNat j = 0) ∧ (mr_fa f t c c = 0 → ∀ j : Nat, j < 3 → mr_br f t c.toNat j = 0) := fun hp t c g1 g2 g3 g4 => by
    obtain ⟨hW, hCq⟩ := hWC hp
    have hF := hW.2.2.2.2.2.1 t g1 (by omega)
    have b := hF.2.2.2.2 c.toNat (by omega)
    refine ⟨hCq.2.2.2.1 t c g1 g2 g3 g4, mr_Fo_box hF (by omega), fun j hj => b.2.1 j (by omega), fun z j hj => b.2.2 (by show mr_fa f t (c.toNat : Int) (c.toNat : Int) = 0; rw [Int.toNat_of_nonneg g3]; exact z) j hj⟩
  have hf13 : 0 < f 0 → 1 ≤ f 1 ∧ f 1 ≤ 3 := fun hp => by have := (hWC hp).1.2.1; have := (hWC hp).1.2.2.2.1; omega
  have hrw : (mr_pk f p ∧ mr_ro f x y z) ↔ ((0 < N 0 ∧ 0 ≤ p ∧ p ≤ 3) ∧ ((0 ≤ x ∧ x < N 0) ∧ (0 ≤ y ∧ y < N 0) ∧ (0 ≤ z ∧ z < N 0) ∧ (N 1 < 2 → y = 0) ∧ (N 1 < 3 → z = 0))) := by
    by_cases q : 0 < f 0
    · rw [mr_ro_e e0 e1 q (hf13 q)]
      exact and_congr_left fun _ => by unfold mr_pk; omega
    · exact ⟨fun h => absurd h.1.1 q, fun h => absurd h.1.1 (by omega)⟩
  refine ⟨n0, nx, ct, fk, g, f, im, S, I, p, x, y, z, rfl, hX, h_p, h_x, h_y, h_z, ?_⟩
  refine ⟨fun hp w1 hX1 hF1 => ?_, fun hno => ?_⟩
  · obtain ⟨hW, hCq⟩ := hWC hp.1.1
    have hF := hW.2.2.2.2.2.1 p hp.1.2.1 hp.1.2.2
    have hro := (hrw.mp hp).2
    obtain ⟨bx, ex⟩ := mr_l3_box (M := f 0) (by omega) (by omega) (show 0 ≤ z ∧ z < f 0 by omega) (x := x) (y := y)
    have hM1 : 1 ≤ f 0 := by omega
    refine ⟨_, _, _, _, _, _, _, _, _, _, _, _, _, _, _, _, _, _, _, _, _, _, _, W, L, p, x, y, z, rfl, mr_MW_fr hF1 hM, hNG, h_p, h_x, h_y, h_z, fun hq w2 st li' n v hl hv hB hM2 hF2 => mr_EQ_of rfl rfl ?_ (mr_iv (mr_o28 hF1 h28) hX1 hF2 hM2 hC), fun hno => absurd (hrw.mp hp) hno⟩
    rw [e0] at hl hv hB ⊢
    rw [mr_bes_e hM1 rfl hW.2.1 hW.2.2.2.1 hF bx hl ex.symm hv hB]
    exact mr_tbk_box (by omega) (mr_lsl_ok hM1 rfl hW.2.1 hW.2.2.2.1 hF bx).1
  · exact ⟨_, _, _, _, _, _, _, _, _, _, _, _, _, _, _, _, _, _, _, _, _, _, _, W, L, p, x, y, z, rfl, hM, hNG, h_p, h_x, h_y, h_z, fun hq => absurd (hrw.mpr hq) hno, fun _ w2 hM2 hF2 => mr_EQ_of rfl rfl rfl (mr_iv h28 hX hF2 hM2 hC)⟩
theorem cs_few {w : mr_Wd} (h : mr_IV w) {p : Int} (h_p : InR p) : T_X6_few [vR 0 0, vI p] w (fun r w1 => T_X7_few [vR 18 0, vI p] w1 (fun r2 w2 => mr_EQ r r2 w2)) := by
  obtain ⟨n0, nx, ct, fk, g, f, im, S, I, th, tp, sz, zo, fr, kd, nb, ft, pl, wd, sm, md, li, sd, T, N, R, K, Sn, ik, s1, s2, ls, hX, hM, hC, h28⟩ := h
  obtain ⟨c1, c2, c3, c4, ⟨c5, c6⟩, c7, c8, c9⟩ := id hC
  obtain ⟨W, L, hNG, e0, e1, e2, hWC, hz, hf0⟩ := mr_OK_NG c4
  have hn0 : 0 ≤ n0 ∧ n0 ≤ 540 := hX.2.2.2.2.2.2.2.2.2.2.2.2.2.2.2.2.1
  have hnx : 0 ≤ nx ∧ nx < 8 := hX.2.2.2.2.2.2.2.2.2.2.2.2.2.2.2.2.2.2.1
  have hct : 0 ≤ ct ∧ ct ≤ 8 := hX.2.2.2.2.2.2.2.2.2.2.2.2.2.2.2.2.2.2.2.1
  refine ⟨n0, nx, ct, fk, g, f, im, S, I, p, rfl, hX, h_p, ?_⟩
  refine ⟨fun hp w1 hX1 hF1 => ?_, fun hno => ?_⟩
  · refine ⟨_, _, _, _, _, _, _, _, _, _, _, _, _, _, _, _, _, _, _, _, _, _, _, W, L, p, rfl, mr_MW_fr hF1 hM, hNG, h_p, fun hq w2 st s2' li' n m hl hm hM2 hF2 => mr_EQ_of rfl rfl ?_ (mr_iv (mr_o28 hF1 h28) hX1 hF2 hM2 hC), fun hno => absurd ⟨by omega, by omega, by omega⟩ hno⟩
    rw [e0] at hl hm
    exact (mr_few_e (hWC hp.1).1 hp.2 hl hm).symm
  · exact ⟨_, _, _, _, _, _, _, _, _, _, _, _, _, _, _, _, _, _, _, _, _, _, _, W, L, p, rfl, hM, hNG, h_p, fun hq => absurd ⟨by omega, by omega, by omega⟩ hno, fun _ w2 hM2 hF2 => mr_EQ_of rfl rfl rfl (mr_iv h28 hX hF2 hM2 hC)⟩
theorem cs_nought {w : mr_Wd} (h : mr_IV w) {p : Int} (h_p : InR p) : T_X6_nought [vR 0 0, vI p] w (fun r w1 => T_X7_nought [vR 18 0, vI p] w1 (fun r2 w2 => mr_EQ r r2 w2)) := by
  obtain ⟨n0, nx, ct, fk, g, f, im, S, I, th, tp, sz, zo, fr, kd, nb, ft, pl, wd, sm, md, li, sd, T, N, R, K, Sn, ik, s1, s2, ls, hX, hM, hC, h28⟩ := h
  obtain ⟨c1, c2, c3, c4, ⟨c5, c6⟩, c7, c8, c9⟩ := id hC
  obtain ⟨W, L, hNG, e0, e1, e2, hWC, hz, hf0⟩ := mr_OK_NG c4
  have hn0 : 0 ≤ n0 ∧ n0 ≤ 540 := hX.2.2.2.2.2.2.2.2.2.2.2.2.2.2.2.2.1
  have hnx : 0 ≤ nx ∧ nx < 8 := hX.2.2.2.2.2.2.2.2.2.2.2.2.2.2.2.2.2.2.1
  have hct : 0 ≤ ct ∧ ct ≤ 8 := hX.2.2.2.2.2.2.2.2.2.2.2.2.2.2.2.2.2.2.2.1
  refine ⟨n0, nx, ct, fk, g, f, im, S, I, p, rfl, hX, h_p, ?_⟩
  refine ⟨fun hp u h1 h2 h3 h4 => ?_, fun hno => ?_⟩
  · refine ⟨_, _, _, _, _, _, _, _, _, _, _, _, _, _, _, _, _, _, _, _, _, _, _, W, L, p, rfl, hM, hNG, h_p, fun hq w2 s1' s2' ls' li' v k1 k2 k3 k4 hM2 hF2 => mr_EQ_of rfl rfl ?_ (mr_iv h28 hX hF2 hM2 hC), fun hno => absurd ⟨by omega, by omega, by omega⟩ hno⟩
    rw [e0] at k2 k3 k4
    exact (mr_nought_e (hWC hp.1).1 hp.2 h1 k1 k2 h3 h4 k3 k4).symm
  · exact ⟨_, _, _, _, _, _, _, _, _, _, _, _, _, _, _, _, _, _, _, _, _, _, _, W, L, p, rfl, hM, hNG, h_p, fun hq => absurd ⟨by omega, by omega, by omega⟩ hno, fun _ w2 hM2 hF2 => mr_EQ_of rfl rfl rfl (mr_iv h28 hX hF2 hM2 hC)⟩
