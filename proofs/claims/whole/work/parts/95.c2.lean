theorem cs_lies {w : mr_Wd} (h : mr_IV w) {s : Int} (h_s : InR s) {t : Int} (h_t : InR t) : T_X6_lies [vR 0 0, vI s, vI t] w (fun r w1 => T_X7_lies [vR 18 0, vI s, vI t] w1 (fun r2 w2 => mr_EQ r r2 w2)) := by
  obtain ⟨n0, nx, ct, fk, g, f, im, S, I, th, tp, sz, zo, fr, kd, nb, ft, pl, wd, sm, md, li, sd, T, N, R, K, Sn, ik, s1, s2, ls, hX, hM, hC, h28⟩ := h
  obtain ⟨c1, c2, c3, c4, ⟨c5, c6⟩, c7, c8, c9⟩ := id hC
  obtain ⟨W, L, hNG, e0, e1, e2, hWC, hz, hf0⟩ := mr_OK_NG c4
  have hn0 : 0 ≤ n0 ∧ n0 ≤ 540 := hX.2.2.2.2.2.2.2.2.2.2.2.2.2.2.2.2.1
  have hnx : 0 ≤ nx ∧ nx < 8 := hX.2.2.2.2.2.2.2.2.2.2.2.2.2.2.2.2.2.2.1
  have hct : 0 ≤ ct ∧ ct ≤ 8 := hX.2.2.2.2.2.2.2.2.2.2.2.2.2.2.2.2.2.2.2.1
  have hrow : 0 < f 0 → ∀ (t : Int) (c : Int), 0 ≤ t → t ≤ 3 → 0 ≤ c → c < 3 → mr_nf N t c = mr_ec (f 0) (mr_br f t c.toNat) ∧ mr_box (f 0) (mr_br f t c.toNat) ∧ (∀ j : Nat, (j : Int) < c → mr_br f t c.toNat j = 0) ∧ (mr_fa f t c c = 0 → ∀ j : Nat, j < 3 → mr_br f t c.toNat j = 0) := fun hp t c g1 g2 g3 g4 => by
    obtain ⟨hW, hCq⟩ := hWC hp
    have hF := hW.2.2.2.2.2.1 t g1 (by omega)
    have b := hF.2.2.2.2 c.toNat (by omega)
    refine ⟨hCq.2.2.2.1 t c g1 g2 g3 g4, mr_Fo_box hF (by omega), fun j hj => b.2.1 j (by omega), fun z j hj => b.2.2 (by show mr_fa f t (c.toNat : Int) (c.toNat : Int) = 0; rw [Int.toNat_of_nonneg g3]; exact z) j hj⟩
  have hf13 : 0 < f 0 → 1 ≤ f 1 ∧ f 1 ≤ 3 := fun hp => by have := (hWC hp).1.2.1; have := (hWC hp).1.2.2.2.1; omega
  have hins : ∀ s t : Int, mr_pk f s → mr_pk f t → (mr_ins f s t ↔ ∀ j : Int, 0 ≤ j → j < 3 → mr_S (N 0) (L t) (mr_nf N s j)) := fun s t hs ht => by
    obtain ⟨hW, hCq⟩ := hWC hs.1
    have hFt := hW.2.2.2.2.2.1 t ht.2.1 ht.2.2
    have hFs := hW.2.2.2.2.2.1 s hs.2.1 hs.2.2
    have hw := hf13 hs.1
    have key : ∀ c : Nat, c < 3 → (mr_mem0 f t (fun j => mr_fa f s c j) ↔ mr_S (N 0) (L t) (mr_nf N s c)) := fun c hc => by
      rw [(hrow hs.1 s c hs.2.1 (by omega) (by omega) (by omega)).1, e0, mr_S_ec (by omega) hFt.1 hFt.2.1, Int.toNat_natCast]
      exact mr_mem_e (by omega) rfl hW.2.1 hW.2.2.2.1 hFt (mr_Fo_box hFs hc)
    refine ⟨fun z j g1 g2 => ?_, fun z c g1 g2 => ?_⟩
    · by_cases q : j < f 1
      · have := (key j.toNat (by omega)).mp (by rw [Int.toNat_of_nonneg g1]; exact z j g1 q)
        rw [Int.toNat_of_nonneg g1] at this
        exact this
      · rw [(hrow hs.1 s j hs.2.1 (by omega) g1 g2).1, e0, mr_S_ec (by omega) hFt.1 hFt.2.1]
        have hz0 : ∀ i, i < 3 → mr_br f s j.toNat i = 0 := fun i hi => mr_Fo_zero hFs (by omega) hi (Or.inl (by have := hW.2.1; omega))
        exact hFt.1.1 _ _ (fun i hi => (hz0 i hi).symm) hFt.1.2.1
    · have := (key c.toNat (by omega)).mpr (by rw [Int.toNat_of_nonneg g1]; exact z c g1 (by omega))
      rw [Int.toNat_of_nonneg g1] at this
      exact this
  have main : ∀ (w1 : mr_Wd) (v : Int), mr_pk f s ∧ mr_pk f t → mr_XS w1 (n0, g, f, nx, ct, S, I, im, fk) → mr_Fr w w1 → (mr_ins f s t → mr_ins f t s → v = 0) → (mr_ins f s t → ¬ mr_ins f t s → v = 1) → (¬ mr_ins f s t → mr_ins f t s → v = 2) → (¬ mr_ins f s t → ¬ mr_ins f t s → v = 3) → T_X7_lies [vR 18 0, vI s, vI t] w1 (fun r2 w2 => mr_EQ (some (vI v)) r2 w2) := fun w1 v hp hX1 hF1 v0 v1 v2 v3 => by
    have a := hins s t hp.1 hp.2
    have b := hins t s hp.2 hp.1
    refine ⟨_, _, _, _, _, _, _, _, _, _, _, _, _, _, _, _, _, _, _, _, _, _, _, W, L, s, t, rfl, mr_MW_fr hF1 hM, hNG, h_s, h_t, fun _ q1 q2 w2 _ _ _ hM2 hF2 => mr_EQ_of rfl rfl ?_ (mr_iv (mr_o28 hF1 h28) hX1 hF2 hM2 hC), fun _ q1 q2 w2 _ _ _ hM2 hF2 => mr_EQ_of rfl rfl ?_ (mr_iv (mr_o28 hF1 h28) hX1 hF2 hM2 hC), fun _ q1 q2 w2 _ _ _ hM2 hF2 => mr_EQ_of rfl rfl ?_ (mr_iv (mr_o28 hF1 h28) hX1 hF2 hM2 hC), fun _ q1 q2 w2 _ _ _ hM2 hF2 => mr_EQ_of rfl rfl ?_ (mr_iv (mr_o28 hF1 h28) hX1 hF2 hM2 hC), fun hno => absurd ⟨⟨by omega, by omega, by omega⟩, by omega, by omega, by omega⟩ hno⟩
    · exact (v0 (a.mpr q1) (b.mpr q2)).symm
    · exact (v1 (a.mpr q1) (fun z => q2 (b.mp z))).symm
    · exact (v2 (fun z => q1 (a.mp z)) (b.mpr q2)).symm
    · exact (v3 (fun z => q1 (a.mp z)) (fun z => q2 (b.mp z))).symm
  refine ⟨n0, nx, ct, fk, g, f, im, S, I, s, t, rfl, hX, h_s, h_t, fun hp i1 i2 w1 hX1 hF1 => main w1 0 hp hX1 hF1 (fun _ _ => rfl) (fun _ z => absurd i2 z) (fun z => absurd i1 z) (fun z => absurd i1 z), fun hp i1 i2 w1 hX1 hF1 => main w1 1 hp hX1 hF1 (fun _ z => absurd z i2) (fun _ _ => rfl) (fun z => absurd i1 z) (fun z => absurd i1 z), fun hp i1 i2 w1 hX1 hF1 => main w1 2 hp hX1 hF1 (fun z => absurd z i1) (fun z => absurd z i1) (fun _ _ => rfl) (fun _ z => absurd i2 z), fun hp i1 i2 w1 hX1 hF1 => main w1 3 hp hX1 hF1 (fun z => absurd z i1) (fun z => absurd z i1) (fun _ z => absurd z i2) (fun _ _ => rfl), fun hno => ?_⟩
  exact ⟨_, _, _, _, _, _, _, _, _, _, _, _, _, _, _, _, _, _, _, _, _, _, _, W, L, s, t, rfl, hM, hNG, h_s, h_t, fun hq => absurd ⟨⟨by omega, by omega, by omega⟩, by omega, by omega, by omega⟩ hno, fun hq => absurd ⟨⟨by omega, by omega, by omega⟩, by omega, by omega, by omega⟩ hno, fun hq => absurd ⟨⟨by omega, by omega, by omega⟩, by omega, by omega, by omega⟩ hno, fun hq => absurd ⟨⟨by omega, by omega, by omega⟩, by omega, by omega, by omega⟩ hno, fun _ w2 hM2 hF2 => mr_EQ_of rfl rfl rfl (mr_iv h28 hX hF2 hM2 hC)⟩
theorem cs_equation {w : mr_Wd} (h : mr_IV w) {i : Int} (h_i : InR i) {q : Int} (h_q : InR q) : T_X6_equation [vR 0 0, vI i, vI q] w (fun r w1 => T_X7_equation [vR 18 0, vI i, vI q] w1 (fun r2 w2 => mr_EQ r r2 w2)) := by
  obtain ⟨n0, nx, ct, fk, g, f, im, S, I, th, tp, sz, zo, fr, kd, nb, ft, pl, wd, sm, md, li, sd, T, N, R, K, Sn, ik, s1, s2, ls, hX, hM, hC, h28⟩ := h
  obtain ⟨c1, c2, c3, c4, ⟨c5, c6⟩, c7, c8, c9⟩ := id hC
  obtain ⟨W, L, hNG, e0, e1, e2, hWC, hz, hf0⟩ := mr_OK_NG c4
  have hn0 : 0 ≤ n0 ∧ n0 ≤ 540 := hX.2.2.2.2.2.2.2.2.2.2.2.2.2.2.2.2.1
  have hnx : 0 ≤ nx ∧ nx < 8 := hX.2.2.2.2.2.2.2.2.2.2.2.2.2.2.2.2.2.2.1
  have hct : 0 ≤ ct ∧ ct ≤ 8 := hX.2.2.2.2.2.2.2.2.2.2.2.2.2.2.2.2.2.2.2.1
  refine ⟨n0, nx, ct, fk, g, f, im, S, I, i, q, rfl, hX, h_i, h_q, ?_⟩
  refine ⟨_, _, _, _, _, _, _, _, _, _, _, _, _, _, _, _, _, _, _, _, _, _, _, W, L, i, q, rfl, hM, hNG, h_i, h_q, (fun z => by rcases Int.lt_or_lt_of_ne (show f 0 ≠ 0 from fun z0 => by have := (hz z0).2; omega) with y | y <;> omega), fun hi w2 hM2 hF2 => mr_EQ_of rfl rfl ?_ (mr_iv h28 hX hF2 hM2 hC), fun hno w2 hM2 hF2 => mr_EQ_of rfl rfl (by rw [if_neg (fun z => hno ⟨by omega, by omega⟩)]) (mr_iv h28 hX hF2 hM2 hC)⟩
  have hp : 0 < f 0 := by rcases Int.lt_or_lt_of_ne (show f 0 ≠ 0 from fun z0 => by have := (hz z0).2; omega) with y | y <;> omega
  obtain ⟨hW, hCq⟩ := hWC hp
  have hi3 : f 2 ≤ 3 := hW.2.2.2.2.1.2
  have cl : ∀ j : Nat, j < 3 → mr_dec (f 0) (N (15 + i).toNat) j = mr_se f i j := fun j hj => by
    have := mr_Cq_l hW hCq (i := i.toNat) (by omega) hj
    rw [if_pos (by omega), Int.toNat_of_nonneg hi.1, show 15 + i.toNat = (15 + i).toNat by omega] at this
    exact this
  have cr : N (18 + i).toNat = mr_se f i 3 := by
    have := mr_Cq_r hCq (i := i.toNat) (by omega)
    rw [if_pos (by omega), Int.toNat_of_nonneg hi.1, show 18 + i.toNat = (18 + i).toNat by omega] at this
    exact this
  have d0 := cl 0 (by decide)
  have d1 := cl 1 (by decide)
  have d2 := cl 2 (by decide)
  rw [mr_dec_0] at d0
  rw [mr_dec_1] at d1
  rw [mr_dec_2] at d2
  rw [e0]
  by_cases q0 : q = 0
  · subst q0; rw [if_pos rfl, if_pos ⟨by omega, by omega, by decide, by decide⟩]; exact d0
  · rw [if_neg q0]
    by_cases q1 : q = 1
    · subst q1; rw [if_pos rfl, if_pos ⟨by omega, by omega, by decide, by decide⟩]; exact d1
    · rw [if_neg q1]
      by_cases q2 : q = 2
      · subst q2; rw [if_pos rfl, if_pos ⟨by omega, by omega, by decide, by decide⟩]; exact d2
      · rw [if_neg q2]
        by_cases q3 : q = 3
        · subst q3; rw [if_pos rfl, if_pos ⟨by omega, by omega, by decide, by decide⟩]; exact cr
        · rw [if_neg q3, if_neg (by omega)]
theorem cs_solutions {w : mr_Wd} (h : mr_IV w) : T_X6_solutions [vR 0 0] w (fun r w1 => T_X7_solutions [vR 18 0] w1 (fun r2 w2 => mr_EQ r r2 w2)) := by
  obtain ⟨n0, nx, ct, fk, g, f, im, S, I, th, tp, sz, zo, fr, kd, nb, ft, pl, wd, sm, md, li, sd, T, N, R, K, Sn, ik, s1, s2, ls, hX, hM, hC, h28⟩ := h
  obtain ⟨c1, c2, c3, c4, ⟨c5, c6⟩, c7, c8, c9⟩ := id hC
  obtain ⟨W, L, hNG, e0, e1, e2, hWC, hz, hf0⟩ := mr_OK_NG c4
  have hn0 : 0 ≤ n0 ∧ n0 ≤ 540 := hX.2.2.2.2.2.2.2.2.2.2.2.2.2.2.2.2.1
  have hnx : 0 ≤ nx ∧ nx < 8 := hX.2.2.2.2.2.2.2.2.2.2.2.2.2.2.2.2.2.2.1
  have hct : 0 ≤ ct ∧ ct ≤ 8 := hX.2.2.2.2.2.2.2.2.2.2.2.2.2.2.2.2.2.2.2.1
  refine ⟨n0, nx, ct, fk, g, f, im, S, I, rfl, hX, ?_⟩
  refine ⟨fun hp R1 F1 w1 hX1 hF1 => ?_, fun hno => ?_⟩
  · refine ⟨_, _, _, _, _, _, _, _, _, _, _, _, _, _, _, _, _, _, _, _, _, _, _, W, L, rfl, mr_MW_fr hF1 hM, hNG, fun hq n hl w2 hM2 hF2 => mr_EQ_of rfl rfl ?_ (mr_iv (mr_o28 hF1 h28) hX1 hF2 hM2 hC), fun hno => by omega⟩
    obtain ⟨st, li9, hl⟩ := hl
    rw [e0] at hl
    exact (mr_solutions_e (hWC hp).1 (hWC hp).2 hl R1 F1).symm
  · exact ⟨_, _, _, _, _, _, _, _, _, _, _, _, _, _, _, _, _, _, _, _, _, _, _, W, L, rfl, hM, hNG, fun hq => by omega, fun _ w2 hM2 hF2 => mr_EQ_of rfl rfl rfl (mr_iv h28 hX hF2 hM2 hC)⟩
theorem cs_solution {w : mr_Wd} (h : mr_IV w) : T_X6_solution [vR 0 0] w (fun r w1 => T_X7_solution [vR 18 0] w1 (fun r2 w2 => mr_EQ r r2 w2)) := by
  obtain ⟨n0, nx, ct, fk, g, f, im, S, I, th, tp, sz, zo, fr, kd, nb, ft, pl, wd, sm, md, li, sd, T, N, R, K, Sn, ik, s1, s2, ls, hX, hM, hC, h28⟩ := h
  obtain ⟨c1, c2, c3, c4, ⟨c5, c6⟩, c7, c8, c9⟩ := id hC
  obtain ⟨W, L, hNG, e0, e1, e2, hWC, hz, hf0⟩ := mr_OK_NG c4
  have hn0 : 0 ≤ n0 ∧ n0 ≤ 540 := hX.2.2.2.2.2.2.2.2.2.2.2.2.2.2.2.2.1
  have hnx : 0 ≤ nx ∧ nx < 8 := hX.2.2.2.2.2.2.2.2.2.2.2.2.2.2.2.2.2.2.1
  have hct : 0 ≤ ct ∧ ct ≤ 8 := hX.2.2.2.2.2.2.2.2.2.2.2.2.2.2.2.2.2.2.2.1
  refine ⟨n0, nx, ct, fk, g, f, im, S, I, rfl, hX, ?_⟩
  refine ⟨fun hp R1 F1 w1 hc hX1 hF1 => ?_, fun hp R1 F1 w1 hc hX1 hF1 => ?_, fun hno => ?_⟩
  · obtain ⟨r0, k1, k2, k3, k4⟩ := (mr_solution_e (hWC hp).1 (hWC hp).2 R1 F1).1 hc
    refine ⟨_, _, _, _, _, _, _, _, _, _, _, _, _, _, _, _, _, _, _, _, _, _, _, W, L, rfl, mr_MW_fr hF1 hM, hNG, fun hq r g1 g2 g3 g4 w2 hM2 hF2 => mr_EQ_of rfl rfl ?_ (mr_iv (mr_o28 hF1 h28) hX1 hF2 hM2 hC), fun hq g1 => absurd k2 (g1 r0 k1.1 (by rw [e0]; exact k1.2)), fun hno => by omega⟩
    have er : r = r0 := by
      rcases (show r < r0 ∨ r = r0 ∨ r0 < r by omega) with q | q | q
      · exact absurd g3 (k3 r g1 q)
      · exact q
      · exact absurd k2 (g4 r0 k1.1 q)
    rw [er, e0]
    exact k4
  · have hn := (mr_solution_e (hWC hp).1 (hWC hp).2 R1 F1).2 hc
    exact ⟨_, _, _, _, _, _, _, _, _, _, _, _, _, _, _, _, _, _, _, _, _, _, _, W, L, rfl, mr_MW_fr hF1 hM, hNG, fun hq r g1 g2 g3 g4 => absurd g3 (hn r g1 (by rw [e0] at g2; exact g2)), fun hq g1 w2 hM2 hF2 => mr_EQ_of rfl rfl rfl (mr_iv (mr_o28 hF1 h28) hX1 hF2 hM2 hC), fun hno => by omega⟩
  · exact ⟨_, _, _, _, _, _, _, _, _, _, _, _, _, _, _, _, _, _, _, _, _, _, _, W, L, rfl, hM, hNG, fun hq => by omega, fun hq => by omega, fun _ w2 hM2 hF2 => mr_EQ_of rfl rfl rfl (mr_iv h28 hX hF2 hM2 hC)⟩
theorem cs_witness {w : mr_Wd} (h : mr_IV w) : T_X6_witness [vR 0 0] w (fun r w1 => T_X7_witness [vR 18 0] w1 (fun r2 w2 => mr_EQ r r2 w2)) := by
  obtain ⟨n0, nx, ct, fk, g, f, im, S, I, th, tp, sz, zo, fr, kd, nb, ft, pl, wd, sm, md, li, sd, T, N, R, K, Sn, ik, s1, s2, ls, hX, hM, hC, h28⟩ := h
  obtain ⟨c1, c2, c3, c4, ⟨c5, c6⟩, c7, c8, c9⟩ := id hC
  obtain ⟨W, L, hNG, e0, e1, e2, hWC, hz, hf0⟩ := mr_OK_NG c4
  have hn0 : 0 ≤ n0 ∧ n0 ≤ 540 := hX.2.2.2.2.2.2.2.2.2.2.2.2.2.2.2.2.1
  have hnx : 0 ≤ nx ∧ nx < 8 := hX.2.2.2.2.2.2.2.2.2.2.2.2.2.2.2.2.2.2.1
  have hct : 0 ≤ ct ∧ ct ≤ 8 := hX.2.2.2.2.2.2.2.2.2.2.2.2.2.2.2.2.2.2.2.1
  refine ⟨n0, nx, ct, fk, g, f, im, S, I, rfl, hX, ?_⟩
  refine ⟨fun hp R1 F1 j w1 h1 h2 h3 h4 hX1 hF1 => ?_, fun hp R1 F1 w1 hc hX1 hF1 => ?_, fun hno => ?_⟩
  · obtain ⟨y1, u0, k1, k2, k3, k4⟩ := mr_wit_yes (hWC hp).1 (hWC hp).2 R1 F1 h1 h2 h3 h4
    refine ⟨_, _, _, _, _, _, _, _, _, _, _, _, _, _, _, _, _, _, _, _, _, _, _, W, L, rfl, mr_MW_fr hF1 hM, hNG, (fun hq hs => by rw [e0] at hs ⊢; exact mr_wit_ex (hWC (by omega)).1 (hWC (by omega)).2 hs), fun hq u g1 g2 g3 g4 g5 w2 hM2 hF2 => mr_EQ_of rfl rfl ?_ (mr_iv (mr_o28 hF1 h28) hX1 hF2 hM2 hC), fun hq ⟨i, g1, g2, g3⟩ => absurd g3 (y1 i g1 (by rw [e0] at g2; exact g2)), fun hno => by omega⟩
    have er : u = u0 := by
      rcases (show u < u0 ∨ u = u0 ∨ u0 < u by omega) with q | q | q
      · exact absurd g4 (k3 u g1 q)
      · exact q
      · exact absurd k2 (g5 u0 k1.1 q)
    rw [er, e0]
    exact k4
  · obtain ⟨i, y1, y2, y3⟩ := mr_wit_no (hWC hp).1 (hWC hp).2 R1 F1 hc
    exact ⟨_, _, _, _, _, _, _, _, _, _, _, _, _, _, _, _, _, _, _, _, _, _, _, W, L, rfl, mr_MW_fr hF1 hM, hNG, (fun hq hs => by rw [e0] at hs ⊢; exact mr_wit_ex (hWC (by omega)).1 (hWC (by omega)).2 hs), fun hq u g1 g2 g3 g4 g5 => absurd y3 (g3 i y1 (by rw [e0]; exact y2)), fun hq _ w2 hM2 hF2 => mr_EQ_of rfl rfl rfl (mr_iv (mr_o28 hF1 h28) hX1 hF2 hM2 hC), fun hno => by omega⟩
  · exact ⟨_, _, _, _, _, _, _, _, _, _, _, _, _, _, _, _, _, _, _, _, _, _, _, W, L, rfl, hM, hNG, (fun hq hs => by rw [e0] at hs ⊢; exact mr_wit_ex (hWC (by omega)).1 (hWC (by omega)).2 hs), fun hq => by omega, fun hq => by omega, fun _ w2 hM2 hF2 => mr_EQ_of rfl rfl rfl (mr_iv h28 hX hF2 hM2 hC)⟩
theorem cs_undo {w : mr_Wd} (h : mr_IV w) : T_X6_undo [vR 0 0] w (fun r w1 => T_X7_undo [vR 18 0] w1 (fun r2 w2 => mr_EQ r r2 w2)) := by
  obtain ⟨n0, nx, ct, fk, g, f, im, S, I, th, tp, sz, zo, fr, kd, nb, ft, pl, wd, sm, md, li, sd, T, N, R, K, Sn, ik, s1, s2, ls, hX, hM, hC, h28⟩ := h
  obtain ⟨c1, c2, c3, c4, ⟨c5, c6⟩, c7, c8, c9⟩ := id hC
  obtain ⟨W, L, hNG, e0, e1, e2, hWC, hz, hf0⟩ := mr_OK_NG c4
  have hn0 : 0 ≤ n0 ∧ n0 ≤ 540 := hX.2.2.2.2.2.2.2.2.2.2.2.2.2.2.2.2.1
  have hnx : 0 ≤ nx ∧ nx < 8 := hX.2.2.2.2.2.2.2.2.2.2.2.2.2.2.2.2.2.2.1
  have hct : 0 ≤ ct ∧ ct ≤ 8 := hX.2.2.2.2.2.2.2.2.2.2.2.2.2.2.2.2.2.2.2.1
  refine ⟨n0, nx, ct, fk, g, f, im, S, I, rfl, hX, ?_⟩
  refine ⟨fun hp w1 hX1 hF1 => ?_, fun hno => ?_⟩
  · refine ⟨_, _, _, _, _, _, _, _, _, _, _, _, _, _, _, _, _, _, _, _, _, _, _, rfl, mr_MW_fr hF1 hM, (by omega), fun hq w2 hM2 hF2 => mr_EQ_of rfl rfl (by rw [c5]) (mr_iv (mr_o28 hF1 h28) hX1 hF2 hM2 ⟨c1, c2, c3, ?_, ⟨by rw [c5], fun j hj => ?_⟩, c7, c8, c9⟩), fun hno => by omega⟩
    · have h6 := c6 (ct - 1).toNat (by omega)
      rw [show ((nx - ct + ((ct - 1).toNat : Nat)) % 8).toNat = ((nx - 1) % 8).toNat by omega] at h6
      exact mr_OK_cg h6 (fun k hk => by rw [mr_cp_at, if_pos ⟨by omega, by omega⟩]; congr 1; omega)
    · have h6 := c6 j (by omega)
      rw [show ((nx - ct + (j : Int)) % 8).toNat = (((nx - 1) % 8 - (ct - 1) + (j : Int)) % 8).toNat by omega] at h6
      exact h6
  · exact ⟨_, _, _, _, _, _, _, _, _, _, _, _, _, _, _, _, _, _, _, _, _, _, _, rfl, hM, (by omega), fun hq => by omega, fun _ w2 hM2 hF2 => mr_EQ_of rfl rfl rfl (mr_iv h28 hX hF2 hM2 hC)⟩
theorem cs_image {w : mr_Wd} (h : mr_IV w) {x : Int} (h_x : InR x) : T_X6_image [vR 0 0, vI x] w (fun r w1 => T_X7_image [vR 18 0, vI x] w1 (fun r2 w2 => mr_EQ r r2 w2)) := by
  obtain ⟨n0, nx, ct, fk, g, f, im, S, I, th, tp, sz, zo, fr, kd, nb, ft, pl, wd, sm, md, li, sd, T, N, R, K, Sn, ik, s1, s2, ls, hX, hM, hC, h28⟩ := h
  obtain ⟨c1, c2, c3, c4, ⟨c5, c6⟩, c7, c8, c9⟩ := id hC
  obtain ⟨W, L, hNG, e0, e1, e2, hWC, hz, hf0⟩ := mr_OK_NG c4
  have hn0 : 0 ≤ n0 ∧ n0 ≤ 540 := hX.2.2.2.2.2.2.2.2.2.2.2.2.2.2.2.2.1
  have hnx : 0 ≤ nx ∧ nx < 8 := hX.2.2.2.2.2.2.2.2.2.2.2.2.2.2.2.2.2.2.1
  have hct : 0 ≤ ct ∧ ct ≤ 8 := hX.2.2.2.2.2.2.2.2.2.2.2.2.2.2.2.2.2.2.2.1
  refine ⟨n0, nx, ct, fk, g, f, im, S, I, x, rfl, hX, h_x, ?_⟩
  refine ⟨fun hp w1 hX1 hF1 => ?_, fun hno => ?_⟩
  · refine ⟨_, _, _, _, _, _, _, _, _, _, _, _, _, _, _, _, _, _, _, _, _, _, _, x, rfl, mr_MW_fr hF1 hM, h_x, fun hq w2 hM2 hF2 => mr_EQ_of rfl rfl rfl (mr_iv (mr_o28 hF1 h28) hX1 hF2 hM2 ⟨c1, c2, c3, c4, ⟨c5, c6⟩, fun q hq2 => ?_, c8, c9⟩), fun hno => absurd ⟨hp.1, by omega⟩ hno⟩
    by_cases e : q = x.toNat
    · subst e
      rw [mr_fs_same, mr_fs_same]
      refine ⟨rfl, fun _ => ?_⟩
      show mr_OK (if x.toNat = x.toNat then f else I x.toNat) _
      rw [if_pos rfl]
      exact mr_OK_cg c4 (fun k hk => by show mr_cp N 0 K (21 * x) (21 * x.toNat + k) = N k; rw [mr_cp_at, if_pos ⟨by omega, by omega⟩]; congr 1; omega)
    · rw [mr_fs_ne _ _ e, mr_fs_ne _ _ e]
      refine ⟨(c7 q hq2).1, fun z => ?_⟩
      show mr_OK (if q = x.toNat then f else I q) _
      rw [if_neg e]
      exact mr_OK_cg ((c7 q hq2).2 z) (fun k hk => by show mr_cp N 0 K (21 * x) (21 * q + k) = K (21 * q + k); rw [mr_cp_at, if_neg (by omega)])
  · exact ⟨_, _, _, _, _, _, _, _, _, _, _, _, _, _, _, _, _, _, _, _, _, _, _, x, rfl, hM, h_x, fun hq => absurd ⟨hq.1, by omega⟩ hno, fun _ w2 hM2 hF2 => mr_EQ_of rfl rfl rfl (mr_iv h28 hX hF2 hM2 hC)⟩
theorem cs_restore {w : mr_Wd} (h : mr_IV w) {x : Int} (h_x : InR x) : T_X6_restore [vR 0 0, vI x] w (fun r w1 => T_X7_restore [vR 18 0, vI x] w1 (fun r2 w2 => mr_EQ r r2 w2)) := by
  obtain ⟨n0, nx, ct, fk, g, f, im, S, I, th, tp, sz, zo, fr, kd, nb, ft, pl, wd, sm, md, li, sd, T, N, R, K, Sn, ik, s1, s2, ls, hX, hM, hC, h28⟩ := h
  obtain ⟨c1, c2, c3, c4, ⟨c5, c6⟩, c7, c8, c9⟩ := id hC
  obtain ⟨W, L, hNG, e0, e1, e2, hWC, hz, hf0⟩ := mr_OK_NG c4
  have hn0 : 0 ≤ n0 ∧ n0 ≤ 540 := hX.2.2.2.2.2.2.2.2.2.2.2.2.2.2.2.2.1
  have hnx : 0 ≤ nx ∧ nx < 8 := hX.2.2.2.2.2.2.2.2.2.2.2.2.2.2.2.2.2.2.1
  have hct : 0 ≤ ct ∧ ct ≤ 8 := hX.2.2.2.2.2.2.2.2.2.2.2.2.2.2.2.2.2.2.2.1
  refine ⟨n0, nx, ct, fk, g, f, im, S, I, x, rfl, hX, h_x, ?_⟩
  refine ⟨fun hp hi w1 hX1 hF1 => ?_, fun hno => ?_, fun hp hi => ?_⟩
  · have h7 := c7 x.toNat (by omega)
    refine ⟨_, _, _, _, _, _, _, _, _, _, _, _, _, _, _, _, _, _, _, _, _, _, _, x, rfl, mr_MW_fr hF1 hM, h_x, fun hq hk w2 hM2 hF2 => mr_EQ_of rfl rfl rfl (mr_iv (mr_o28 hF1 h28) hX1 hF2 hM2 ⟨c1, c2, c3, ?_, ⟨rfl, fun j hj => by omega⟩, c7, c8, c9⟩), fun hno => absurd ⟨hp.1, by omega⟩ hno, fun hq hk => absurd (h7.1.trans hk) hi⟩
    exact mr_OK_cg (h7.2 hk) (fun k hk2 => by rw [mr_cp_at, if_pos ⟨by omega, by omega⟩]; show K _ = K (21 * x.toNat + k); congr 1; omega)
  · exact ⟨_, _, _, _, _, _, _, _, _, _, _, _, _, _, _, _, _, _, _, _, _, _, _, x, rfl, hM, h_x, fun hq => absurd ⟨hq.1, by omega⟩ hno, fun _ w2 hM2 hF2 => mr_EQ_of rfl rfl rfl (mr_iv h28 hX hF2 hM2 hC), fun hq => absurd ⟨hq.1, by omega⟩ hno⟩
  · have h7 := c7 x.toNat (by omega)
    exact ⟨_, _, _, _, _, _, _, _, _, _, _, _, _, _, _, _, _, _, _, _, _, _, _, x, rfl, hM, h_x, fun hq hk => absurd (h7.1.symm.trans hi) hk, fun hno => absurd ⟨hp.1, by omega⟩ hno, fun hq hk w2 hM2 hF2 => mr_EQ_of rfl rfl rfl (mr_iv h28 hX hF2 hM2 hC)⟩
