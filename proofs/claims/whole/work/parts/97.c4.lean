theorem cs_join {w : mr_Wd} (h : mr_IV w) {s : Int} (h_s : InR s) {t : Int} (h_t : InR t) {b : Int} (h_b : InR b) {q : Int} (h_q : InR q) : T_X6_join [vR 0 0, vI s, vI t, vI b, vI q] w (fun r w1 => T_X7_join [vR 18 0, vI s, vI t, vI b, vI q] w1 (fun r2 w2 => mr_EQ r r2 w2)) := by
  obtain ⟨n0, nx, ct, fk, g, f, im, S, I, th, tp, sz, zo, fr, kd, nb, ft, pl, wd, sm, md, li, sd, T, N, R, K, Sn, ik, s1, s2, ls, hX, hM, hC, h28⟩ := h
  obtain ⟨c1, c2, c3, c4, ⟨c5, c6⟩, c7, c8, c9⟩ := id hC
  obtain ⟨W, L, hNG, e0, e1, e2, hWC, hz, hf0⟩ := mr_OK_NG c4
  have hn0 : 0 ≤ n0 ∧ n0 ≤ 540 := hX.2.2.2.2.2.2.2.2.2.2.2.2.2.2.2.2.1
  have hnx : 0 ≤ nx ∧ nx < 8 := hX.2.2.2.2.2.2.2.2.2.2.2.2.2.2.2.2.2.2.1
  have hct : 0 ≤ ct ∧ ct ≤ 8 := hX.2.2.2.2.2.2.2.2.2.2.2.2.2.2.2.2.2.2.2.1
  refine ⟨n0, nx, ct, fk, g, f, im, S, I, s, t, b, q, rfl, hX, h_s, h_t, h_b, h_q, ?_⟩
  refine ⟨fun hp hb R1 F1 w1 hX1 hF1 => ?_, fun hp hb R1 F1 w1 hX1 hF1 => ?_, fun hno => ?_⟩
  · obtain ⟨hW, hCq⟩ := hWC hp.1.1
    have hs4 := hp.1.2
    have ht4 := hp.2.1.2
    have hq4 := hp.2.2.2
    have hFN := (mr_Cq_NW hW hCq).2.2.2.2.1 t ht4.1 (by omega)
    have hLi := mr_Fo_Li (hW.2.2.2.2.2.1 s hs4.1 hs4.2)
    have hWB := mr_WB_join hW hs4 ht4 hq4 R1 F1
    refine ⟨_, _, _, _, _, _, _, _, _, _, _, _, _, _, _, _, _, _, _, _, _, _, _, W, L, mr_br (mr_pA f q (fun c a => mr_sh (f 1) (mr_shp (f 0) (f 1) (0 + f 1 + f 1) (mr_tbJ (f 1) 0 f s t R1) F1) (0 + c) (0 + a))) q, mr_LJ (L s) (L t), s, t, b, q, rfl, mr_MW_fr hF1 hM, hNG, (by omega), h_s, h_t, h_b, h_q, (fun _ => by rw [e0]; exact mr_act_Fo hWB hq4), (fun _ _ x => by rw [e0]; exact mr_LJ3 (by omega) hLi hFN.1 x), (fun _ z => absurd hb z), fun hq w2 Sn' st' li' s2' sm' n hsn hl hM2 hF2 => mr_EQ_of rfl rfl ?_ (mr_iv (mr_o28 hF1 h28) hX1 hF2 hM2 (mr_CI_act hX hC hsn (by rw [e0]; exact mr_OK_kf hW hCq hq4 hWB))), fun hno => absurd ⟨⟨by omega, by omega, by omega⟩, ⟨by omega, by omega, by omega⟩, by omega, by omega, by omega⟩ hno⟩
    rw [e0] at hl
    exact mr_act_sz hWB hq4 hl
  · obtain ⟨hW, hCq⟩ := hWC hp.1.1
    have hs4 := hp.1.2
    have ht4 := hp.2.1.2
    have hq4 := hp.2.2.2
    have hWB := mr_WB_meet hW hs4 ht4 hq4 R1 F1
    refine ⟨_, _, _, _, _, _, _, _, _, _, _, _, _, _, _, _, _, _, _, _, _, _, _, W, L, mr_br (mr_pA f q (fun c a => mr_sh (2 * f 1) (mr_shp (f 0) (2 * f 1) (0 + f 1 + f 1) (mr_tbJ (2 * f 1) 1 f s t R1) F1) (f 1 + c) (f 1 + a))) q, (fun x => L s x ∧ L t x), s, t, b, q, rfl, mr_MW_fr hF1 hM, hNG, (by omega), h_s, h_t, h_b, h_q, (fun _ => by rw [e0]; exact mr_act_Fo hWB hq4), (fun _ z => absurd z hb), (fun _ _ x => Iff.rfl), fun hq w2 Sn' st' li' s2' sm' n hsn hl hM2 hF2 => mr_EQ_of rfl rfl ?_ (mr_iv (mr_o28 hF1 h28) hX1 hF2 hM2 (mr_CI_act hX hC hsn (by rw [e0]; exact mr_OK_kf hW hCq hq4 hWB))), fun hno => absurd ⟨⟨by omega, by omega, by omega⟩, ⟨by omega, by omega, by omega⟩, by omega, by omega, by omega⟩ hno⟩
    rw [e0] at hl
    exact mr_act_sz hWB hq4 hl
  · exact ⟨_, _, _, _, _, _, _, _, _, _, _, _, _, _, _, _, _, _, _, _, _, _, _, W, L, fun _ _ => 0, fun _ => True, s, t, b, q, rfl, hM, hNG, (by omega), h_s, h_t, h_b, h_q, (fun hq => absurd ⟨⟨by omega, by omega, by omega⟩, ⟨by omega, by omega, by omega⟩, by omega, by omega, by omega⟩ hno), (fun hq => absurd ⟨⟨by omega, by omega, by omega⟩, ⟨by omega, by omega, by omega⟩, by omega, by omega, by omega⟩ hno), (fun hq => absurd ⟨⟨by omega, by omega, by omega⟩, ⟨by omega, by omega, by omega⟩, by omega, by omega, by omega⟩ hno), fun hq => absurd ⟨⟨by omega, by omega, by omega⟩, ⟨by omega, by omega, by omega⟩, by omega, by omega, by omega⟩ hno, fun _ w2 hM2 hF2 => mr_EQ_of rfl rfl rfl (mr_iv h28 hX hF2 hM2 hC)⟩
theorem cs_upright {w : mr_Wd} (h : mr_IV w) {s : Int} (h_s : InR s) {q : Int} (h_q : InR q) : T_X6_upright [vR 0 0, vI s, vI q] w (fun r w1 => T_X7_upright [vR 18 0, vI s, vI q] w1 (fun r2 w2 => mr_EQ r r2 w2)) := by
  obtain ⟨n0, nx, ct, fk, g, f, im, S, I, th, tp, sz, zo, fr, kd, nb, ft, pl, wd, sm, md, li, sd, T, N, R, K, Sn, ik, s1, s2, ls, hX, hM, hC, h28⟩ := h
  obtain ⟨c1, c2, c3, c4, ⟨c5, c6⟩, c7, c8, c9⟩ := id hC
  obtain ⟨W, L, hNG, e0, e1, e2, hWC, hz, hf0⟩ := mr_OK_NG c4
  have hn0 : 0 ≤ n0 ∧ n0 ≤ 540 := hX.2.2.2.2.2.2.2.2.2.2.2.2.2.2.2.2.1
  have hnx : 0 ≤ nx ∧ nx < 8 := hX.2.2.2.2.2.2.2.2.2.2.2.2.2.2.2.2.2.2.1
  have hct : 0 ≤ ct ∧ ct ≤ 8 := hX.2.2.2.2.2.2.2.2.2.2.2.2.2.2.2.2.2.2.2.1
  refine ⟨n0, nx, ct, fk, g, f, im, S, I, s, q, rfl, hX, h_s, h_q, ?_⟩
  refine ⟨fun hp R1 F1 w1 hX1 hF1 => ?_, fun hno => ?_⟩
  · obtain ⟨hW, hCq⟩ := hWC hp.1.1
    have hs4 := hp.1.2
    have hq4 := hp.2.2
    have hWB := mr_WB_U (L := L) hW (n0 := W) (N := f 1) (cl := 2 * f 1) (q := q) hW.2.1 (by omega) hq4 (fun c i => mr_fa f s i c) R1 F1
    refine ⟨_, _, _, _, _, _, _, _, _, _, _, _, _, _, _, _, _, _, _, _, _, _, _, W, L, mr_br (mr_pA f q (fun c a => mr_sh (2 * f 1) (mr_shp (f 0) (2 * f 1) (0 + f 1) (mr_tbU f s R1) F1) (f 1 + c) (f 1 + a))) q, (fun x => (∀ i, i < W → f 0 ∣ mr_sm W (fun c => mr_fa f s i c * x c)) ∧ ∀ j, W ≤ j → j < 3 → f 0 ∣ x j), s, q, rfl, mr_MW_fr hF1 hM, hNG, (by omega), h_s, h_q, (fun _ => by rw [e0]; exact mr_act_Fo hWB hq4), (fun _ r g1 g2 => by have h9 := mr_up_e hW hCq (s := s) ⟨hs4.1, by omega⟩ (r := r) ⟨g1, by rw [← e0]; exact g2⟩; rw [e0] at h9 ⊢; exact h9), fun hq w2 Sn' st' li' s2' sm' n hsn hl hM2 hF2 => mr_EQ_of rfl rfl ?_ (mr_iv (mr_o28 hF1 h28) hX1 hF2 hM2 (mr_CI_act hX hC hsn (by rw [e0]; exact mr_OK_kf hW hCq hq4 hWB))), fun hno => absurd ⟨⟨by omega, by omega, by omega⟩, by omega, by omega, by omega⟩ hno⟩
    rw [e0] at hl
    exact mr_act_sz hWB hq4 hl
  · exact ⟨_, _, _, _, _, _, _, _, _, _, _, _, _, _, _, _, _, _, _, _, _, _, _, W, L, fun _ _ => 0, fun _ => True, s, q, rfl, hM, hNG, (by omega), h_s, h_q, (fun hq => absurd ⟨⟨by omega, by omega, by omega⟩, by omega, by omega, by omega⟩ hno), (fun hq => absurd ⟨⟨by omega, by omega, by omega⟩, by omega, by omega, by omega⟩ hno), fun hq => absurd ⟨⟨by omega, by omega, by omega⟩, by omega, by omega, by omega⟩ hno, fun _ w2 hM2 hF2 => mr_EQ_of rfl rfl rfl (mr_iv h28 hX hF2 hM2 hC)⟩
theorem cs_kernel {w : mr_Wd} (h : mr_IV w) {q : Int} (h_q : InR q) : T_X6_kernel [vR 0 0, vI q] w (fun r w1 => T_X7_kernel [vR 18 0, vI q] w1 (fun r2 w2 => mr_EQ r r2 w2)) := by
  obtain ⟨n0, nx, ct, fk, g, f, im, S, I, th, tp, sz, zo, fr, kd, nb, ft, pl, wd, sm, md, li, sd, T, N, R, K, Sn, ik, s1, s2, ls, hX, hM, hC, h28⟩ := h
  obtain ⟨c1, c2, c3, c4, ⟨c5, c6⟩, c7, c8, c9⟩ := id hC
  obtain ⟨W, L, hNG, e0, e1, e2, hWC, hz, hf0⟩ := mr_OK_NG c4
  have hn0 : 0 ≤ n0 ∧ n0 ≤ 540 := hX.2.2.2.2.2.2.2.2.2.2.2.2.2.2.2.2.1
  have hnx : 0 ≤ nx ∧ nx < 8 := hX.2.2.2.2.2.2.2.2.2.2.2.2.2.2.2.2.2.2.1
  have hct : 0 ≤ ct ∧ ct ≤ 8 := hX.2.2.2.2.2.2.2.2.2.2.2.2.2.2.2.2.2.2.2.1
  refine ⟨n0, nx, ct, fk, g, f, im, S, I, q, rfl, hX, h_q, ?_⟩
  refine ⟨fun hp R1 F1 w1 hX1 hF1 => ?_, fun hno => ?_⟩
  · obtain ⟨hW, hCq⟩ := hWC hp.1
    have hq4 := hp.2
    have h2n := hW.2.2.2.2.1
    have hn2 : f 2 = ((f 2).toNat : Int) := by omega
    have hWB := mr_WB_U (L := L) hW (n0 := (f 2).toNat) (N := f 2) (cl := f 2 + f 1) (q := q) hn2 rfl hq4 (fun c i => mr_se f i c) R1 F1
    refine ⟨_, _, _, _, _, _, _, _, _, _, _, _, _, _, _, _, _, _, _, _, _, _, _, W, L, mr_br (mr_pA f q (fun c a => mr_sh (f 2 + f 1) (mr_shp (f 0) (f 2 + f 1) (0 + f 1) (mr_tbK f R1) F1) (f 2 + c) (f 2 + a))) q, (fun x => (∀ i, i < (f 2).toNat → f 0 ∣ mr_sm W (fun c => mr_se f i c * x c)) ∧ ∀ j, W ≤ j → j < 3 → f 0 ∣ x j), q, rfl, mr_MW_fr hF1 hM, hNG, (by omega), h_q, (fun _ => by rw [e0]; exact mr_act_Fo hWB hq4), (fun _ r g1 g2 => by have h9 := mr_kn_e hW hCq hn2 (r := r) ⟨g1, by rw [← e0]; exact g2⟩; rw [e0] at h9 ⊢; exact h9), fun hq w2 Sn' st' li' s2' sm' n hsn hl hM2 hF2 => mr_EQ_of rfl rfl ?_ (mr_iv (mr_o28 hF1 h28) hX1 hF2 hM2 (mr_CI_act hX hC hsn (by rw [e0]; exact mr_OK_kf hW hCq hq4 hWB))), fun hno => absurd ⟨by omega, by omega, by omega⟩ hno⟩
    rw [e0] at hl
    exact mr_act_sz hWB hq4 hl
  · exact ⟨_, _, _, _, _, _, _, _, _, _, _, _, _, _, _, _, _, _, _, _, _, _, _, W, L, fun _ _ => 0, fun _ => True, q, rfl, hM, hNG, (by omega), h_q, (fun hq => absurd ⟨by omega, by omega, by omega⟩ hno), (fun hq => absurd ⟨by omega, by omega, by omega⟩ hno), fun hq => absurd ⟨by omega, by omega, by omega⟩ hno, fun _ w2 hM2 hF2 => mr_EQ_of rfl rfl rfl (mr_iv h28 hX hF2 hM2 hC)⟩
theorem cs_times {w : mr_Wd} (h : mr_IV w) {s : Int} (h_s : InR s) {u : Int} (h_u : InR u) {b : Int} (h_b : InR b) {q : Int} (h_q : InR q) : T_X6_times [vR 0 0, vI s, vI u, vI b, vI q] w (fun r w1 => T_X7_times [vR 18 0, vI s, vI u, vI b, vI q] w1 (fun r2 w2 => mr_EQ r r2 w2)) := by
  obtain ⟨n0, nx, ct, fk, g, f, im, S, I, th, tp, sz, zo, fr, kd, nb, ft, pl, wd, sm, md, li, sd, T, N, R, K, Sn, ik, s1, s2, ls, hX, hM, hC, h28⟩ := h
  obtain ⟨c1, c2, c3, c4, ⟨c5, c6⟩, c7, c8, c9⟩ := id hC
  obtain ⟨W, L, hNG, e0, e1, e2, hWC, hz, hf0⟩ := mr_OK_NG c4
  have hn0 : 0 ≤ n0 ∧ n0 ≤ 540 := hX.2.2.2.2.2.2.2.2.2.2.2.2.2.2.2.2.1
  have hnx : 0 ≤ nx ∧ nx < 8 := hX.2.2.2.2.2.2.2.2.2.2.2.2.2.2.2.2.2.2.1
  have hct : 0 ≤ ct ∧ ct ≤ 8 := hX.2.2.2.2.2.2.2.2.2.2.2.2.2.2.2.2.2.2.2.1
  refine ⟨n0, nx, ct, fk, g, f, im, S, I, s, u, b, q, rfl, hX, h_s, h_u, h_b, h_q, ?_⟩
  refine ⟨fun hp hb R1 F1 w1 hX1 hF1 => ?_, fun hp hb R1 F1 w1 hX1 hF1 => ?_, fun hno => ?_⟩
  · obtain ⟨hW, hCq⟩ := hWC hp.1.1
    have hs4 := hp.1.2
    have hq4 := hp.2.1.2
    have hLi := mr_Fo_Li (hW.2.2.2.2.2.1 s hs4.1 hs4.2)
    have hWB := mr_WB_times (u := u) hW hs4 hq4 R1 F1
    refine ⟨_, _, _, _, _, _, _, _, _, _, _, _, _, _, _, _, _, _, _, _, _, _, _, W, L, mr_br (mr_pA f q (fun c a => mr_sh (f 1) (mr_shp (f 0) (f 1) (0 + f 1) (mr_tbT u f s R1) F1) (0 + c) (0 + a))) q, mr_LT (f 0) u (L s), s, u, b, q, rfl, mr_MW_fr hF1 hM, hNG, (by omega), h_s, h_u, h_b, h_q, (fun _ => by rw [e0]; exact mr_act_Fo hWB hq4), (fun _ _ r g1 g2 => by rw [e0] at g2 ⊢; exact ⟨fun ⟨x, _, k2, k3⟩ => by rw [k3]; exact mr_of_LT (by omega) k2, fun z => mr_LT_of (by omega) hLi g1 g2 z⟩), (fun _ z => absurd hb z), fun hq w2 Sn' st' li' s2' sm' n hsn hl hM2 hF2 => mr_EQ_of rfl rfl ?_ (mr_iv (mr_o28 hF1 h28) hX1 hF2 hM2 (mr_CI_act hX hC hsn (by rw [e0]; exact mr_OK_kf hW hCq hq4 hWB))), fun hno => absurd ⟨⟨by omega, by omega, by omega⟩, ⟨by omega, by omega, by omega⟩, by omega, by omega⟩ hno⟩
    rw [e0] at hl
    exact mr_act_sz hWB hq4 hl
  · obtain ⟨hW, hCq⟩ := hWC hp.1.1
    have hs4 := hp.1.2
    have hq4 := hp.2.1.2
    have hw3 := hW.2.2.2.1
    have hLi := mr_Fo_Li (hW.2.2.2.2.2.1 s hs4.1 hs4.2)
    have key : ∀ r : Int, 0 ≤ r → r < f 0 * f 0 * f 0 → ((r % mr_stp N = 0 ∧ mr_S (f 0) (L s) (mr_of (f 0) r u)) ↔ mr_S (f 0) (mr_LB2 (f 0) u W (L s)) r) := fun r g1 g2 => by
      have ir := mr_isrow (N := N) (M := f 0) (w := W) (by omega) e0 (by have := hW.2.1; omega) hw3 ⟨g1, g2⟩
      have bx := mr_dec_box (M := f 0) (by omega) g1 g2
      have dd : ∀ j, j < 3 → f 0 ∣ mr_dec (f 0) (mr_of (f 0) r u) j - u * mr_dec (f 0) r j := fun j hj => by rw [Int.mul_comm u]; exact mr_of_dec (by omega) r u j hj
      refine ⟨fun z => ⟨mr_Li_mod hLi (fun j hj => mr_dvd_sym (dd j hj)) z.2, fun j k1 k2 => by rw [ir.mp z.1 j k1 k2]; exact mr_dvd_0 _⟩, fun z => ⟨ir.mpr (fun j k1 k2 => mr_dvd_small (z.2 j k1 k2) (by have := bx j k2; omega) (by have := bx j k2; omega)), mr_Li_mod hLi (fun j hj => dd j hj) z.1⟩⟩
    have hWB := mr_WB_by (u := u) hW hs4 hq4 R1 F1
    refine ⟨_, _, _, _, _, _, _, _, _, _, _, _, _, _, _, _, _, _, _, _, _, _, _, W, L, mr_br (mr_pA f q (fun c a => mr_sh (2 * f 1) (mr_shp (f 0) (2 * f 1) (0 + f 1 + f 1) (mr_tbB u f s R1) F1) (f 1 + c) (f 1 + a))) q, mr_LB2 (f 0) u W (L s), s, u, b, q, rfl, mr_MW_fr hF1 hM, hNG, (by omega), h_s, h_u, h_b, h_q, (fun _ => by rw [e0]; exact mr_act_Fo hWB hq4), (fun _ z => absurd z hb), (fun _ _ r g1 g2 => by rw [e0] at g2 ⊢; exact key r g1 g2), fun hq w2 Sn' st' li' s2' sm' n hsn hl hM2 hF2 => mr_EQ_of rfl rfl ?_ (mr_iv (mr_o28 hF1 h28) hX1 hF2 hM2 (mr_CI_act hX hC hsn (by rw [e0]; exact mr_OK_kf hW hCq hq4 hWB))), fun hno => absurd ⟨⟨by omega, by omega, by omega⟩, ⟨by omega, by omega, by omega⟩, by omega, by omega⟩ hno⟩
    rw [e0] at hl
    exact mr_act_sz hWB hq4 hl
  · exact ⟨_, _, _, _, _, _, _, _, _, _, _, _, _, _, _, _, _, _, _, _, _, _, _, W, L, fun _ _ => 0, fun _ => True, s, u, b, q, rfl, hM, hNG, (by omega), h_s, h_u, h_b, h_q, (fun hq => absurd ⟨⟨by omega, by omega, by omega⟩, ⟨by omega, by omega, by omega⟩, by omega, by omega⟩ hno), (fun hq => absurd ⟨⟨by omega, by omega, by omega⟩, ⟨by omega, by omega, by omega⟩, by omega, by omega⟩ hno), (fun hq => absurd ⟨⟨by omega, by omega, by omega⟩, ⟨by omega, by omega, by omega⟩, by omega, by omega⟩ hno), fun hq => absurd ⟨⟨by omega, by omega, by omega⟩, ⟨by omega, by omega, by omega⟩, by omega, by omega⟩ hno, fun _ w2 hM2 hF2 => mr_EQ_of rfl rfl rfl (mr_iv h28 hX hF2 hM2 hC)⟩
theorem cs_drawn {w : mr_Wd} (h : mr_IV w) {n : Int} (h_n : InR n) {x : Int} : T_X6_drawn [vR 0 0, vI n, vI x] w (fun r w1 => T_X7_drawn [vR 18 0, vI n, vI x] w1 (fun r2 w2 => mr_EQ r r2 w2)) := by
  obtain ⟨n0, nx, ct, fk, g, f, im, S, I, th, tp, sz, zo, fr, kd, nb, ft, pl, wd, sm, md, li, sd, T, N, R, K, Sn, ik, s1, s2, ls, hX, hM, hC, h28⟩ := h
  obtain ⟨c1, c2, c3, c4, ⟨c5, c6⟩, c7, c8, c9⟩ := id hC
  obtain ⟨W, L, hNG, e0, e1, e2, hWC, hz, hf0⟩ := mr_OK_NG c4
  have hn0 : 0 ≤ n0 ∧ n0 ≤ 540 := hX.2.2.2.2.2.2.2.2.2.2.2.2.2.2.2.2.1
  have hnx : 0 ≤ nx ∧ nx < 8 := hX.2.2.2.2.2.2.2.2.2.2.2.2.2.2.2.2.2.2.1
  have hct : 0 ≤ ct ∧ ct ≤ 8 := hX.2.2.2.2.2.2.2.2.2.2.2.2.2.2.2.2.2.2.2.1
  have hG : 0 < N 0 → mr_WB f (N 0) W L ∧ mr_Cq f N := fun z => by rw [e0]; exact hWC (by omega)
  refine ⟨n0, nx, ct, fk, g, f, im, S, I, n, x, rfl, hX, h_n, fun hp hf w1 hX1 hF1 => ?_, fun hp hf => ?_, fun hno => ?_⟩
  · exact ⟨_, _, _, _, _, _, _, _, _, _, _, _, _, _, _, _, _, _, _, _, _, _, _, W, L, f, n, x, rfl, mr_MW_fr hF1 hM, (by omega), hG, (by omega), h_n, fun hq _ w2 N' Sn' s1' ls' sm' li' sd' L' hsn hW2 hC2 hM2 hF2 => mr_EQ_of rfl rfl rfl (mr_iv (mr_o28 hF1 h28) hX1 hF2 hM2 (mr_CI_act hX hC hsn (Or.inr ⟨_, _, _, hW2, hC2⟩))), fun _ z => by omega, fun z => absurd hp z⟩
  · exact ⟨_, _, _, _, _, _, _, _, _, _, _, _, _, _, _, _, _, _, _, _, _, _, _, W, L, f, n, x, rfl, hM, (by omega), hG, (by omega), h_n, fun _ z => by omega, fun _ _ w2 hM2 hF2 => mr_EQ_of rfl rfl rfl (mr_iv h28 hX hF2 hM2 hC), fun z => absurd hp z⟩
  · exact ⟨_, _, _, _, _, _, _, _, _, _, _, _, _, _, _, _, _, _, _, _, _, _, _, W, L, f, n, x, rfl, hM, (by omega), hG, (by omega), h_n, fun z => absurd z hno, fun z => absurd z hno, fun _ w2 hM2 hF2 => mr_EQ_of rfl rfl rfl (mr_iv h28 hX hF2 hM2 hC)⟩
